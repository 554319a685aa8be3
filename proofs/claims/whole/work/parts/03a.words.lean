/-! Links: a row a field, a row a call, out of the tables' words -/
theorem inG_of (ws : List Cond) (is : List Nat) (h : ws = is.filterMap (fun i => lw_tbl[i]?)) (hg : ws.all goodWord = true) : ∀ w ∈ ws, w ∈ gtbl := by
  intro w hw
  have h1 := List.all_eq_true.mp hg w hw
  rw [h] at hw
  obtain ⟨i, -, hi⟩ := List.mem_filterMap.mp hw
  exact gtbl_in (List.mem_of_getElem? hi) h1
theorem wG {w : Cond} (i : Nat) (h : lw_tbl[i]? = some w) (hg : goodWord w = true) : w ∈ gtbl := gtbl_in (List.mem_of_getElem? h) hg
theorem wN {w : Cond} (i : Nat) (h : lw_tbl[i]? = some w) (hg : nestW w = true) : w ∈ ntbl := ntbl_in (List.mem_of_getElem? h) hg
theorem inG0 : ∀ w ∈ u_ws RX0 TX0 3, w ∈ gtbl := inG_of _ [257, 259, 261] (by decide +kernel) (by decide +kernel)
theorem inG1 : ∀ w ∈ u_ws RX1 TX1 6, w ∈ gtbl := inG_of _ [357, 359, 361, 363, 365, 367] (by decide +kernel) (by decide +kernel)
theorem inG2 : ∀ w ∈ u_ws RX2 TX2 16, w ∈ gtbl := inG_of _ [211, 213, 215, 217, 219, 221, 223, 225, 227, 229, 231, 233, 235, 237, 239, 241] (by decide +kernel) (by decide +kernel)
theorem inG3 : ∀ w ∈ u_ws RX3 TX3 5, w ∈ gtbl := inG_of _ [332, 334, 336, 338, 340] (by decide +kernel) (by decide +kernel)
theorem inG4 : ∀ w ∈ u_ws RX4 TX4 3, w ∈ gtbl := inG_of _ [118, 120, 122] (by decide +kernel) (by decide +kernel)
theorem inG5 : ∀ w ∈ u_ws RX5 TX5 15, w ∈ gtbl := inG_of _ [286, 288, 290, 292, 294, 296, 298, 300, 302, 304, 306, 308, 310, 312, 314] (by decide +kernel) (by decide +kernel)
theorem inG6 : ∀ w ∈ u_ws RX6 TX6 4, w ∈ gtbl := inG_of _ [139, 141, 143, 145] (by decide +kernel) (by decide +kernel)
theorem inG7 : ∀ w ∈ u_ws RX7 TX7 13, w ∈ gtbl := inG_of _ [383, 385, 387, 389, 391, 393, 395, 397, 399, 401, 403, 405, 407] (by decide +kernel) (by decide +kernel)
theorem inG8 : ∀ w ∈ u_ws RX8 TX8 31, w ∈ gtbl := inG_of _ [1026, 1028, 1030, 1032, 1034, 1036, 1038, 1040, 1042, 1044, 1046, 1048, 1050, 1052, 1054, 1056, 1058, 1060, 1062, 1064, 1066, 1068, 1070, 1072, 1074, 1076, 1078, 1080, 1082, 1084, 1086] (by decide +kernel) (by decide +kernel)
abbrev mX0_init : mM := (yX0_init, cX0_init, 2, none)
theorem kc_X0_init : Cond.code yX0_init cX0_init 2 none ∈ gtbl := wG 249 (by decide +kernel) (by decide +kernel)
theorem ki_X0_init : Cond.instanceMethod yX0_init ∈ gtbl := wG 248 (by decide +kernel) (by decide +kernel)
theorem kd_X0_init : yX0_init.cls = RX0 ∧ yX0_init.cls ≠ "java/lang/invoke/MethodHandle" ∧ yX0_init.cls ≠ "java/lang/invoke/VarHandle" ∧ (parseMethodDescriptor yX0_init.desc).map (fun d => d.parameters.length) = some 0 := by decide +kernel
abbrev mX0_forget : mM := (yX0_forget, cX0_forget, 1, none)
theorem kc_X0_forget : Cond.code yX0_forget cX0_forget 1 none ∈ gtbl := wG 534 (by decide +kernel) (by decide +kernel)
theorem ki_X0_forget : Cond.instanceMethod yX0_forget ∈ gtbl := wG 532 (by decide +kernel) (by decide +kernel)
theorem kd_X0_forget : yX0_forget.cls = RX0 ∧ yX0_forget.cls ≠ "java/lang/invoke/MethodHandle" ∧ yX0_forget.cls ≠ "java/lang/invoke/VarHandle" ∧ (parseMethodDescriptor yX0_forget.desc).map (fun d => d.parameters.length) = some 0 := by decide +kernel
theorem ks_X0_forget : Cond.selects RX0 yX0_forget yX0_forget ∈ gtbl := wG 533 (by decide +kernel) (by decide +kernel)
abbrev mX0_keep : mM := (yX0_keep, cX0_keep, 2, none)
theorem kc_X0_keep : Cond.code yX0_keep cX0_keep 2 none ∈ gtbl := wG 559 (by decide +kernel) (by decide +kernel)
theorem ki_X0_keep : Cond.instanceMethod yX0_keep ∈ gtbl := wG 557 (by decide +kernel) (by decide +kernel)
theorem kd_X0_keep : yX0_keep.cls = RX0 ∧ yX0_keep.cls ≠ "java/lang/invoke/MethodHandle" ∧ yX0_keep.cls ≠ "java/lang/invoke/VarHandle" ∧ (parseMethodDescriptor yX0_keep.desc).map (fun d => d.parameters.length) = some 1 := by decide +kernel
theorem ks_X0_keep : Cond.selects RX0 yX0_keep yX0_keep ∈ gtbl := wG 558 (by decide +kernel) (by decide +kernel)
abbrev mX0_takeBack : mM := (yX0_takeBack, cX0_takeBack, 2, none)
theorem kc_X0_takeBack : Cond.code yX0_takeBack cX0_takeBack 2 none ∈ gtbl := wG 672 (by decide +kernel) (by decide +kernel)
theorem ki_X0_takeBack : Cond.instanceMethod yX0_takeBack ∈ gtbl := wG 670 (by decide +kernel) (by decide +kernel)
theorem kd_X0_takeBack : yX0_takeBack.cls = RX0 ∧ yX0_takeBack.cls ≠ "java/lang/invoke/MethodHandle" ∧ yX0_takeBack.cls ≠ "java/lang/invoke/VarHandle" ∧ (parseMethodDescriptor yX0_takeBack.desc).map (fun d => d.parameters.length) = some 1 := by decide +kernel
theorem ks_X0_takeBack : Cond.selects RX0 yX0_takeBack yX0_takeBack ∈ gtbl := wG 671 (by decide +kernel) (by decide +kernel)
abbrev mX1_init : mM := (yX1_init, cX1_init, 1, none)
theorem kc_X1_init : Cond.code yX1_init cX1_init 1 none ∈ gtbl := wG 347 (by decide +kernel) (by decide +kernel)
theorem ki_X1_init : Cond.instanceMethod yX1_init ∈ gtbl := wG 346 (by decide +kernel) (by decide +kernel)
theorem kd_X1_init : yX1_init.cls = RX1 ∧ yX1_init.cls ≠ "java/lang/invoke/MethodHandle" ∧ yX1_init.cls ≠ "java/lang/invoke/VarHandle" ∧ (parseMethodDescriptor yX1_init.desc).map (fun d => d.parameters.length) = some 0 := by decide +kernel
abbrev mX1_begin : mM := (yX1_begin, cX1_begin, 3, none)
theorem kc_X1_begin : Cond.code yX1_begin cX1_begin 3 none ∈ gtbl := wG 921 (by decide +kernel) (by decide +kernel)
theorem ki_X1_begin : Cond.instanceMethod yX1_begin ∈ gtbl := wG 919 (by decide +kernel) (by decide +kernel)
theorem kd_X1_begin : yX1_begin.cls = RX1 ∧ yX1_begin.cls ≠ "java/lang/invoke/MethodHandle" ∧ yX1_begin.cls ≠ "java/lang/invoke/VarHandle" ∧ (parseMethodDescriptor yX1_begin.desc).map (fun d => d.parameters.length) = some 2 := by decide +kernel
theorem ks_X1_begin : Cond.selects RX1 yX1_begin yX1_begin ∈ gtbl := wG 920 (by decide +kernel) (by decide +kernel)
abbrev mX1_sizeOf : mM := (yX1_sizeOf, cX1_sizeOf, 1, (some .int))
theorem kc_X1_sizeOf : Cond.code yX1_sizeOf cX1_sizeOf 1 (some .int) ∈ gtbl := wG 926 (by decide +kernel) (by decide +kernel)
theorem ki_X1_sizeOf : Cond.instanceMethod yX1_sizeOf ∈ gtbl := wG 924 (by decide +kernel) (by decide +kernel)
theorem kd_X1_sizeOf : yX1_sizeOf.cls = RX1 ∧ yX1_sizeOf.cls ≠ "java/lang/invoke/MethodHandle" ∧ yX1_sizeOf.cls ≠ "java/lang/invoke/VarHandle" ∧ (parseMethodDescriptor yX1_sizeOf.desc).map (fun d => d.parameters.length) = some 0 := by decide +kernel
theorem ks_X1_sizeOf : Cond.selects RX1 yX1_sizeOf yX1_sizeOf ∈ gtbl := wG 925 (by decide +kernel) (by decide +kernel)
abbrev mX1_markOf : mM := (yX1_markOf, cX1_markOf, 1, (some .int))
theorem kc_X1_markOf : Cond.code yX1_markOf cX1_markOf 1 (some .int) ∈ gtbl := wG 962 (by decide +kernel) (by decide +kernel)
theorem ki_X1_markOf : Cond.instanceMethod yX1_markOf ∈ gtbl := wG 960 (by decide +kernel) (by decide +kernel)
theorem kd_X1_markOf : yX1_markOf.cls = RX1 ∧ yX1_markOf.cls ≠ "java/lang/invoke/MethodHandle" ∧ yX1_markOf.cls ≠ "java/lang/invoke/VarHandle" ∧ (parseMethodDescriptor yX1_markOf.desc).map (fun d => d.parameters.length) = some 0 := by decide +kernel
theorem ks_X1_markOf : Cond.selects RX1 yX1_markOf yX1_markOf ∈ gtbl := wG 961 (by decide +kernel) (by decide +kernel)
abbrev mX1_sizeOfWaters : mM := (yX1_sizeOfWaters, cX1_sizeOfWaters, 1, (some .int))
theorem kc_X1_sizeOfWaters : Cond.code yX1_sizeOfWaters cX1_sizeOfWaters 1 (some .int) ∈ gtbl := wG 954 (by decide +kernel) (by decide +kernel)
theorem ki_X1_sizeOfWaters : Cond.instanceMethod yX1_sizeOfWaters ∈ gtbl := wG 953 (by decide +kernel) (by decide +kernel)
theorem kd_X1_sizeOfWaters : yX1_sizeOfWaters.cls = RX1 ∧ yX1_sizeOfWaters.cls ≠ "java/lang/invoke/MethodHandle" ∧ yX1_sizeOfWaters.cls ≠ "java/lang/invoke/VarHandle" ∧ (parseMethodDescriptor yX1_sizeOfWaters.desc).map (fun d => d.parameters.length) = some 0 := by decide +kernel
theorem ks_X1_sizeOfWaters : Cond.selects RX1 yX1_sizeOfWaters yX1_sizeOfWaters ∈ gtbl := wG 44 (by decide +kernel) (by decide +kernel)
abbrev mX1_markOfPlains : mM := (yX1_markOfPlains, cX1_markOfPlains, 1, (some .int))
theorem kc_X1_markOfPlains : Cond.code yX1_markOfPlains cX1_markOfPlains 1 (some .int) ∈ gtbl := wG 942 (by decide +kernel) (by decide +kernel)
theorem ki_X1_markOfPlains : Cond.instanceMethod yX1_markOfPlains ∈ gtbl := wG 941 (by decide +kernel) (by decide +kernel)
theorem kd_X1_markOfPlains : yX1_markOfPlains.cls = RX1 ∧ yX1_markOfPlains.cls ≠ "java/lang/invoke/MethodHandle" ∧ yX1_markOfPlains.cls ≠ "java/lang/invoke/VarHandle" ∧ (parseMethodDescriptor yX1_markOfPlains.desc).map (fun d => d.parameters.length) = some 0 := by decide +kernel
theorem ks_X1_markOfPlains : Cond.selects RX1 yX1_markOfPlains yX1_markOfPlains ∈ gtbl := wG 41 (by decide +kernel) (by decide +kernel)
abbrev mX1_sizeOfPlain : mM := (yX1_sizeOfPlain, cX1_sizeOfPlain, 2, (some .int))
theorem kc_X1_sizeOfPlain : Cond.code yX1_sizeOfPlain cX1_sizeOfPlain 2 (some .int) ∈ gtbl := wG 934 (by decide +kernel) (by decide +kernel)
theorem ki_X1_sizeOfPlain : Cond.instanceMethod yX1_sizeOfPlain ∈ gtbl := wG 933 (by decide +kernel) (by decide +kernel)
theorem kd_X1_sizeOfPlain : yX1_sizeOfPlain.cls = RX1 ∧ yX1_sizeOfPlain.cls ≠ "java/lang/invoke/MethodHandle" ∧ yX1_sizeOfPlain.cls ≠ "java/lang/invoke/VarHandle" ∧ (parseMethodDescriptor yX1_sizeOfPlain.desc).map (fun d => d.parameters.length) = some 0 := by decide +kernel
theorem ks_X1_sizeOfPlain : Cond.selects RX1 yX1_sizeOfPlain yX1_sizeOfPlain ∈ gtbl := wG 39 (by decide +kernel) (by decide +kernel)
abbrev mX1_sizeOfWater : mM := (yX1_sizeOfWater, cX1_sizeOfWater, 1, (some .int))
theorem kc_X1_sizeOfWater : Cond.code yX1_sizeOfWater cX1_sizeOfWater 1 (some .int) ∈ gtbl := wG 958 (by decide +kernel) (by decide +kernel)
theorem ki_X1_sizeOfWater : Cond.instanceMethod yX1_sizeOfWater ∈ gtbl := wG 957 (by decide +kernel) (by decide +kernel)
theorem kd_X1_sizeOfWater : yX1_sizeOfWater.cls = RX1 ∧ yX1_sizeOfWater.cls ≠ "java/lang/invoke/MethodHandle" ∧ yX1_sizeOfWater.cls ≠ "java/lang/invoke/VarHandle" ∧ (parseMethodDescriptor yX1_sizeOfWater.desc).map (fun d => d.parameters.length) = some 0 := by decide +kernel
theorem ks_X1_sizeOfWater : Cond.selects RX1 yX1_sizeOfWater yX1_sizeOfWater ∈ gtbl := wG 45 (by decide +kernel) (by decide +kernel)
abbrev mX1_sizeLent : mM := (yX1_sizeLent, cX1_sizeLent, 1, (some .int))
theorem kc_X1_sizeLent : Cond.code yX1_sizeLent cX1_sizeLent 1 (some .int) ∈ gtbl := wG 938 (by decide +kernel) (by decide +kernel)
theorem ki_X1_sizeLent : Cond.instanceMethod yX1_sizeLent ∈ gtbl := wG 937 (by decide +kernel) (by decide +kernel)
theorem kd_X1_sizeLent : yX1_sizeLent.cls = RX1 ∧ yX1_sizeLent.cls ≠ "java/lang/invoke/MethodHandle" ∧ yX1_sizeLent.cls ≠ "java/lang/invoke/VarHandle" ∧ (parseMethodDescriptor yX1_sizeLent.desc).map (fun d => d.parameters.length) = some 0 := by decide +kernel
theorem ks_X1_sizeLent : Cond.selects RX1 yX1_sizeLent yX1_sizeLent ∈ gtbl := wG 40 (by decide +kernel) (by decide +kernel)
abbrev mX1_markOfPlain : mM := (yX1_markOfPlain, cX1_markOfPlain, 1, (some .int))
theorem kc_X1_markOfPlain : Cond.code yX1_markOfPlain cX1_markOfPlain 1 (some .int) ∈ gtbl := wG 946 (by decide +kernel) (by decide +kernel)
theorem ki_X1_markOfPlain : Cond.instanceMethod yX1_markOfPlain ∈ gtbl := wG 945 (by decide +kernel) (by decide +kernel)
theorem kd_X1_markOfPlain : yX1_markOfPlain.cls = RX1 ∧ yX1_markOfPlain.cls ≠ "java/lang/invoke/MethodHandle" ∧ yX1_markOfPlain.cls ≠ "java/lang/invoke/VarHandle" ∧ (parseMethodDescriptor yX1_markOfPlain.desc).map (fun d => d.parameters.length) = some 0 := by decide +kernel
theorem ks_X1_markOfPlain : Cond.selects RX1 yX1_markOfPlain yX1_markOfPlain ∈ gtbl := wG 42 (by decide +kernel) (by decide +kernel)
abbrev mX1_markOfWater : mM := (yX1_markOfWater, cX1_markOfWater, 2, (some .int))
theorem kc_X1_markOfWater : Cond.code yX1_markOfWater cX1_markOfWater 2 (some .int) ∈ gtbl := wG 966 (by decide +kernel) (by decide +kernel)
theorem ki_X1_markOfWater : Cond.instanceMethod yX1_markOfWater ∈ gtbl := wG 965 (by decide +kernel) (by decide +kernel)
theorem kd_X1_markOfWater : yX1_markOfWater.cls = RX1 ∧ yX1_markOfWater.cls ≠ "java/lang/invoke/MethodHandle" ∧ yX1_markOfWater.cls ≠ "java/lang/invoke/VarHandle" ∧ (parseMethodDescriptor yX1_markOfWater.desc).map (fun d => d.parameters.length) = some 0 := by decide +kernel
theorem ks_X1_markOfWater : Cond.selects RX1 yX1_markOfWater yX1_markOfWater ∈ gtbl := wG 46 (by decide +kernel) (by decide +kernel)
abbrev mX1_markLent : mM := (yX1_markLent, cX1_markLent, 1, (some .int))
theorem kc_X1_markLent : Cond.code yX1_markLent cX1_markLent 1 (some .int) ∈ gtbl := wG 950 (by decide +kernel) (by decide +kernel)
theorem ki_X1_markLent : Cond.instanceMethod yX1_markLent ∈ gtbl := wG 949 (by decide +kernel) (by decide +kernel)
theorem kd_X1_markLent : yX1_markLent.cls = RX1 ∧ yX1_markLent.cls ≠ "java/lang/invoke/MethodHandle" ∧ yX1_markLent.cls ≠ "java/lang/invoke/VarHandle" ∧ (parseMethodDescriptor yX1_markLent.desc).map (fun d => d.parameters.length) = some 0 := by decide +kernel
theorem ks_X1_markLent : Cond.selects RX1 yX1_markLent yX1_markLent ∈ gtbl := wG 43 (by decide +kernel) (by decide +kernel)
abbrev mX1_leave : mM := (yX1_leave, cX1_leave, 2, none)
theorem kc_X1_leave : Cond.code yX1_leave cX1_leave 2 none ∈ gtbl := wG 930 (by decide +kernel) (by decide +kernel)
theorem ki_X1_leave : Cond.instanceMethod yX1_leave ∈ gtbl := wG 929 (by decide +kernel) (by decide +kernel)
theorem kd_X1_leave : yX1_leave.cls = RX1 ∧ yX1_leave.cls ≠ "java/lang/invoke/MethodHandle" ∧ yX1_leave.cls ≠ "java/lang/invoke/VarHandle" ∧ (parseMethodDescriptor yX1_leave.desc).map (fun d => d.parameters.length) = some 1 := by decide +kernel
theorem ks_X1_leave : Cond.selects RX1 yX1_leave yX1_leave ∈ gtbl := wG 38 (by decide +kernel) (by decide +kernel)
abbrev mX2_init : mM := (yX2_init, cX2_init, 1, none)
theorem kc_X2_init : Cond.code yX2_init cX2_init 1 none ∈ gtbl := wG 152 (by decide +kernel) (by decide +kernel)
theorem ki_X2_init : Cond.instanceMethod yX2_init ∈ gtbl := wG 151 (by decide +kernel) (by decide +kernel)
theorem kd_X2_init : yX2_init.cls = RX2 ∧ yX2_init.cls ≠ "java/lang/invoke/MethodHandle" ∧ yX2_init.cls ≠ "java/lang/invoke/VarHandle" ∧ (parseMethodDescriptor yX2_init.desc).map (fun d => d.parameters.length) = some 0 := by decide +kernel
abbrev mX2_becomeLike : mM := (yX2_becomeLike, cX2_becomeLike, 2, none)
theorem kc_X2_becomeLike : Cond.code yX2_becomeLike cX2_becomeLike 2 none ∈ gtbl := wG 521 (by decide +kernel) (by decide +kernel)
theorem ki_X2_becomeLike : Cond.instanceMethod yX2_becomeLike ∈ gtbl := wG 519 (by decide +kernel) (by decide +kernel)
theorem kd_X2_becomeLike : yX2_becomeLike.cls = RX2 ∧ yX2_becomeLike.cls ≠ "java/lang/invoke/MethodHandle" ∧ yX2_becomeLike.cls ≠ "java/lang/invoke/VarHandle" ∧ (parseMethodDescriptor yX2_becomeLike.desc).map (fun d => d.parameters.length) = some 1 := by decide +kernel
theorem ks_X2_becomeLike : Cond.selects RX2 yX2_becomeLike yX2_becomeLike ∈ gtbl := wG 520 (by decide +kernel) (by decide +kernel)
abbrev mX2_putPrice : mM := (yX2_putPrice, cX2_putPrice, 3, none)
theorem kc_X2_putPrice : Cond.code yX2_putPrice cX2_putPrice 3 none ∈ gtbl := wG 656 (by decide +kernel) (by decide +kernel)
theorem ki_X2_putPrice : Cond.instanceMethod yX2_putPrice ∈ gtbl := wG 654 (by decide +kernel) (by decide +kernel)
theorem kd_X2_putPrice : yX2_putPrice.cls = RX2 ∧ yX2_putPrice.cls ≠ "java/lang/invoke/MethodHandle" ∧ yX2_putPrice.cls ≠ "java/lang/invoke/VarHandle" ∧ (parseMethodDescriptor yX2_putPrice.desc).map (fun d => d.parameters.length) = some 2 := by decide +kernel
theorem ks_X2_putPrice : Cond.selects RX2 yX2_putPrice yX2_putPrice ∈ gtbl := wG 655 (by decide +kernel) (by decide +kernel)
abbrev mX2_putKind : mM := (yX2_putKind, cX2_putKind, 3, none)
theorem kc_X2_putKind : Cond.code yX2_putKind cX2_putKind 3 none ∈ gtbl := wG 664 (by decide +kernel) (by decide +kernel)
theorem ki_X2_putKind : Cond.instanceMethod yX2_putKind ∈ gtbl := wG 662 (by decide +kernel) (by decide +kernel)
theorem kd_X2_putKind : yX2_putKind.cls = RX2 ∧ yX2_putKind.cls ≠ "java/lang/invoke/MethodHandle" ∧ yX2_putKind.cls ≠ "java/lang/invoke/VarHandle" ∧ (parseMethodDescriptor yX2_putKind.desc).map (fun d => d.parameters.length) = some 2 := by decide +kernel
theorem ks_X2_putKind : Cond.selects RX2 yX2_putKind yX2_putKind ∈ gtbl := wG 663 (by decide +kernel) (by decide +kernel)
abbrev mX2_settle : mM := (yX2_settle, cX2_settle, 3, none)
theorem kc_X2_settle : Cond.code yX2_settle cX2_settle 3 none ∈ gtbl := wG 526 (by decide +kernel) (by decide +kernel)
theorem ki_X2_settle : Cond.instanceMethod yX2_settle ∈ gtbl := wG 525 (by decide +kernel) (by decide +kernel)
theorem kd_X2_settle : yX2_settle.cls = RX2 ∧ yX2_settle.cls ≠ "java/lang/invoke/MethodHandle" ∧ yX2_settle.cls ≠ "java/lang/invoke/VarHandle" ∧ (parseMethodDescriptor yX2_settle.desc).map (fun d => d.parameters.length) = some 0 := by decide +kernel
theorem ks_X2_settle : Cond.selects RX2 yX2_settle yX2_settle ∈ gtbl := wG 11 (by decide +kernel) (by decide +kernel)
abbrev mX2_sortUnits : mM := (yX2_sortUnits, cX2_sortUnits, 3, none)
theorem kc_X2_sortUnits : Cond.code yX2_sortUnits cX2_sortUnits 3 none ∈ gtbl := wG 530 (by decide +kernel) (by decide +kernel)
theorem ki_X2_sortUnits : Cond.instanceMethod yX2_sortUnits ∈ gtbl := wG 529 (by decide +kernel) (by decide +kernel)
theorem kd_X2_sortUnits : yX2_sortUnits.cls = RX2 ∧ yX2_sortUnits.cls ≠ "java/lang/invoke/MethodHandle" ∧ yX2_sortUnits.cls ≠ "java/lang/invoke/VarHandle" ∧ (parseMethodDescriptor yX2_sortUnits.desc).map (fun d => d.parameters.length) = some 0 := by decide +kernel
theorem ks_X2_sortUnits : Cond.selects RX2 yX2_sortUnits yX2_sortUnits ∈ gtbl := wG 12 (by decide +kernel) (by decide +kernel)
abbrev mX2_allHours : mM := (yX2_allHours, cX2_allHours, 1, (some .int))
theorem kc_X2_allHours : Cond.code yX2_allHours cX2_allHours 1 (some .int) ∈ gtbl := wG 550 (by decide +kernel) (by decide +kernel)
theorem ki_X2_allHours : Cond.instanceMethod yX2_allHours ∈ gtbl := wG 548 (by decide +kernel) (by decide +kernel)
theorem kd_X2_allHours : yX2_allHours.cls = RX2 ∧ yX2_allHours.cls ≠ "java/lang/invoke/MethodHandle" ∧ yX2_allHours.cls ≠ "java/lang/invoke/VarHandle" ∧ (parseMethodDescriptor yX2_allHours.desc).map (fun d => d.parameters.length) = some 0 := by decide +kernel
theorem ks_X2_allHours : Cond.selects RX2 yX2_allHours yX2_allHours ∈ gtbl := wG 549 (by decide +kernel) (by decide +kernel)
abbrev mX2_sumDemands : mM := (yX2_sumDemands, cX2_sumDemands, 3, (some .int))
theorem kc_X2_sumDemands : Cond.code yX2_sumDemands cX2_sumDemands 3 (some .int) ∈ gtbl := wG 983 (by decide +kernel) (by decide +kernel)
theorem ki_X2_sumDemands : Cond.instanceMethod yX2_sumDemands ∈ gtbl := wG 981 (by decide +kernel) (by decide +kernel)
theorem kd_X2_sumDemands : yX2_sumDemands.cls = RX2 ∧ yX2_sumDemands.cls ≠ "java/lang/invoke/MethodHandle" ∧ yX2_sumDemands.cls ≠ "java/lang/invoke/VarHandle" ∧ (parseMethodDescriptor yX2_sumDemands.desc).map (fun d => d.parameters.length) = some 0 := by decide +kernel
theorem ks_X2_sumDemands : Cond.selects RX2 yX2_sumDemands yX2_sumDemands ∈ gtbl := wG 982 (by decide +kernel) (by decide +kernel)
abbrev mX2_keeps : mM := (yX2_keeps, cX2_keeps, 6, (some .boolean))
theorem kc_X2_keeps : Cond.code yX2_keeps cX2_keeps 6 (some .boolean) ∈ gtbl := wG 683 (by decide +kernel) (by decide +kernel)
theorem ki_X2_keeps : Cond.instanceMethod yX2_keeps ∈ gtbl := wG 681 (by decide +kernel) (by decide +kernel)
theorem kd_X2_keeps : yX2_keeps.cls = RX2 ∧ yX2_keeps.cls ≠ "java/lang/invoke/MethodHandle" ∧ yX2_keeps.cls ≠ "java/lang/invoke/VarHandle" ∧ (parseMethodDescriptor yX2_keeps.desc).map (fun d => d.parameters.length) = some 2 := by decide +kernel
theorem ks_X2_keeps : Cond.selects RX2 yX2_keeps yX2_keeps ∈ gtbl := wG 682 (by decide +kernel) (by decide +kernel)
abbrev mX2_unitsOn : mM := (yX2_unitsOn, cX2_unitsOn, 2, (some .int))
theorem kc_X2_unitsOn : Cond.code yX2_unitsOn cX2_unitsOn 2 (some .int) ∈ gtbl := wG 692 (by decide +kernel) (by decide +kernel)
theorem ki_X2_unitsOn : Cond.instanceMethod yX2_unitsOn ∈ gtbl := wG 690 (by decide +kernel) (by decide +kernel)
theorem kd_X2_unitsOn : yX2_unitsOn.cls = RX2 ∧ yX2_unitsOn.cls ≠ "java/lang/invoke/MethodHandle" ∧ yX2_unitsOn.cls ≠ "java/lang/invoke/VarHandle" ∧ (parseMethodDescriptor yX2_unitsOn.desc).map (fun d => d.parameters.length) = some 1 := by decide +kernel
theorem ks_X2_unitsOn : Cond.selects RX2 yX2_unitsOn yX2_unitsOn ∈ gtbl := wG 691 (by decide +kernel) (by decide +kernel)
abbrev mX2_unitsStarting : mM := (yX2_unitsStarting, cX2_unitsStarting, 2, (some .int))
theorem kc_X2_unitsStarting : Cond.code yX2_unitsStarting cX2_unitsStarting 2 (some .int) ∈ gtbl := wG 701 (by decide +kernel) (by decide +kernel)
theorem ki_X2_unitsStarting : Cond.instanceMethod yX2_unitsStarting ∈ gtbl := wG 699 (by decide +kernel) (by decide +kernel)
theorem kd_X2_unitsStarting : yX2_unitsStarting.cls = RX2 ∧ yX2_unitsStarting.cls ≠ "java/lang/invoke/MethodHandle" ∧ yX2_unitsStarting.cls ≠ "java/lang/invoke/VarHandle" ∧ (parseMethodDescriptor yX2_unitsStarting.desc).map (fun d => d.parameters.length) = some 1 := by decide +kernel
theorem ks_X2_unitsStarting : Cond.selects RX2 yX2_unitsStarting yX2_unitsStarting ∈ gtbl := wG 700 (by decide +kernel) (by decide +kernel)
abbrev mX2_unitsAmong : mM := (yX2_unitsAmong, cX2_unitsAmong, 6, (some .int))
theorem kc_X2_unitsAmong : Cond.code yX2_unitsAmong cX2_unitsAmong 6 (some .int) ∈ gtbl := wG 696 (by decide +kernel) (by decide +kernel)
theorem ki_X2_unitsAmong : Cond.instanceMethod yX2_unitsAmong ∈ gtbl := wG 695 (by decide +kernel) (by decide +kernel)
theorem kd_X2_unitsAmong : yX2_unitsAmong.cls = RX2 ∧ yX2_unitsAmong.cls ≠ "java/lang/invoke/MethodHandle" ∧ yX2_unitsAmong.cls ≠ "java/lang/invoke/VarHandle" ∧ (parseMethodDescriptor yX2_unitsAmong.desc).map (fun d => d.parameters.length) = some 2 := by decide +kernel
theorem ks_X2_unitsAmong : Cond.selects RX2 yX2_unitsAmong yX2_unitsAmong ∈ gtbl := wG 27 (by decide +kernel) (by decide +kernel)
abbrev mX2_floorsOf : mM := (yX2_floorsOf, cX2_floorsOf, 4, (some .int))
theorem kc_X2_floorsOf : Cond.code yX2_floorsOf cX2_floorsOf 4 (some .int) ∈ gtbl := wG 705 (by decide +kernel) (by decide +kernel)
theorem ki_X2_floorsOf : Cond.instanceMethod yX2_floorsOf ∈ gtbl := wG 703 (by decide +kernel) (by decide +kernel)
theorem kd_X2_floorsOf : yX2_floorsOf.cls = RX2 ∧ yX2_floorsOf.cls ≠ "java/lang/invoke/MethodHandle" ∧ yX2_floorsOf.cls ≠ "java/lang/invoke/VarHandle" ∧ (parseMethodDescriptor yX2_floorsOf.desc).map (fun d => d.parameters.length) = some 1 := by decide +kernel
theorem ks_X2_floorsOf : Cond.selects RX2 yX2_floorsOf yX2_floorsOf ∈ gtbl := wG 704 (by decide +kernel) (by decide +kernel)
abbrev mX2_roofsOf : mM := (yX2_roofsOf, cX2_roofsOf, 5, (some .int))
theorem kc_X2_roofsOf : Cond.code yX2_roofsOf cX2_roofsOf 5 (some .int) ∈ gtbl := wG 709 (by decide +kernel) (by decide +kernel)
theorem ki_X2_roofsOf : Cond.instanceMethod yX2_roofsOf ∈ gtbl := wG 707 (by decide +kernel) (by decide +kernel)
theorem kd_X2_roofsOf : yX2_roofsOf.cls = RX2 ∧ yX2_roofsOf.cls ≠ "java/lang/invoke/MethodHandle" ∧ yX2_roofsOf.cls ≠ "java/lang/invoke/VarHandle" ∧ (parseMethodDescriptor yX2_roofsOf.desc).map (fun d => d.parameters.length) = some 2 := by decide +kernel
theorem ks_X2_roofsOf : Cond.selects RX2 yX2_roofsOf yX2_roofsOf ∈ gtbl := wG 708 (by decide +kernel) (by decide +kernel)
abbrev mX2_isMet : mM := (yX2_isMet, cX2_isMet, 4, (some .boolean))
theorem kc_X2_isMet : Cond.code yX2_isMet cX2_isMet 4 (some .boolean) ∈ gtbl := wG 713 (by decide +kernel) (by decide +kernel)
theorem ki_X2_isMet : Cond.instanceMethod yX2_isMet ∈ gtbl := wG 711 (by decide +kernel) (by decide +kernel)
theorem kd_X2_isMet : yX2_isMet.cls = RX2 ∧ yX2_isMet.cls ≠ "java/lang/invoke/MethodHandle" ∧ yX2_isMet.cls ≠ "java/lang/invoke/VarHandle" ∧ (parseMethodDescriptor yX2_isMet.desc).map (fun d => d.parameters.length) = some 3 := by decide +kernel
theorem ks_X2_isMet : Cond.selects RX2 yX2_isMet yX2_isMet ∈ gtbl := wG 712 (by decide +kernel) (by decide +kernel)
abbrev mX2_givenBy : mM := (yX2_givenBy, cX2_givenBy, 10, (some .int))
theorem kc_X2_givenBy : Cond.code yX2_givenBy cX2_givenBy 10 (some .int) ∈ gtbl := wG 723 (by decide +kernel) (by decide +kernel)
theorem ki_X2_givenBy : Cond.instanceMethod yX2_givenBy ∈ gtbl := wG 721 (by decide +kernel) (by decide +kernel)
theorem kd_X2_givenBy : yX2_givenBy.cls = RX2 ∧ yX2_givenBy.cls ≠ "java/lang/invoke/MethodHandle" ∧ yX2_givenBy.cls ≠ "java/lang/invoke/VarHandle" ∧ (parseMethodDescriptor yX2_givenBy.desc).map (fun d => d.parameters.length) = some 4 := by decide +kernel
theorem ks_X2_givenBy : Cond.selects RX2 yX2_givenBy yX2_givenBy ∈ gtbl := wG 722 (by decide +kernel) (by decide +kernel)
abbrev mX2_hourCost : mM := (yX2_hourCost, cX2_hourCost, 12, (some .int))
theorem kc_X2_hourCost : Cond.code yX2_hourCost cX2_hourCost 12 (some .int) ∈ gtbl := wG 617 (by decide +kernel) (by decide +kernel)
theorem ki_X2_hourCost : Cond.instanceMethod yX2_hourCost ∈ gtbl := wG 615 (by decide +kernel) (by decide +kernel)
theorem kd_X2_hourCost : yX2_hourCost.cls = RX2 ∧ yX2_hourCost.cls ≠ "java/lang/invoke/MethodHandle" ∧ yX2_hourCost.cls ≠ "java/lang/invoke/VarHandle" ∧ (parseMethodDescriptor yX2_hourCost.desc).map (fun d => d.parameters.length) = some 3 := by decide +kernel
theorem ks_X2_hourCost : Cond.selects RX2 yX2_hourCost yX2_hourCost ∈ gtbl := wG 616 (by decide +kernel) (by decide +kernel)
abbrev mX2_planCost : mM := (yX2_planCost, cX2_planCost, 4, (some .int))
theorem kc_X2_planCost : Cond.code yX2_planCost cX2_planCost 4 (some .int) ∈ gtbl := wG 734 (by decide +kernel) (by decide +kernel)
theorem ki_X2_planCost : Cond.instanceMethod yX2_planCost ∈ gtbl := wG 732 (by decide +kernel) (by decide +kernel)
theorem kd_X2_planCost : yX2_planCost.cls = RX2 ∧ yX2_planCost.cls ≠ "java/lang/invoke/MethodHandle" ∧ yX2_planCost.cls ≠ "java/lang/invoke/VarHandle" ∧ (parseMethodDescriptor yX2_planCost.desc).map (fun d => d.parameters.length) = some 0 := by decide +kernel
theorem ks_X2_planCost : Cond.selects RX2 yX2_planCost yX2_planCost ∈ gtbl := wG 733 (by decide +kernel) (by decide +kernel)
abbrev mX2_hoursNotMet : mM := (yX2_hoursNotMet, cX2_hoursNotMet, 3, (some .int))
theorem kc_X2_hoursNotMet : Cond.code yX2_hoursNotMet cX2_hoursNotMet 3 (some .int) ∈ gtbl := wG 746 (by decide +kernel) (by decide +kernel)
theorem ki_X2_hoursNotMet : Cond.instanceMethod yX2_hoursNotMet ∈ gtbl := wG 744 (by decide +kernel) (by decide +kernel)
theorem kd_X2_hoursNotMet : yX2_hoursNotMet.cls = RX2 ∧ yX2_hoursNotMet.cls ≠ "java/lang/invoke/MethodHandle" ∧ yX2_hoursNotMet.cls ≠ "java/lang/invoke/VarHandle" ∧ (parseMethodDescriptor yX2_hoursNotMet.desc).map (fun d => d.parameters.length) = some 0 := by decide +kernel
theorem ks_X2_hoursNotMet : Cond.selects RX2 yX2_hoursNotMet yX2_hoursNotMet ∈ gtbl := wG 745 (by decide +kernel) (by decide +kernel)
abbrev mX2_unitsNotKeeping : mM := (yX2_unitsNotKeeping, cX2_unitsNotKeeping, 3, (some .int))
theorem kc_X2_unitsNotKeeping : Cond.code yX2_unitsNotKeeping cX2_unitsNotKeeping 3 (some .int) ∈ gtbl := wG 738 (by decide +kernel) (by decide +kernel)
theorem ki_X2_unitsNotKeeping : Cond.instanceMethod yX2_unitsNotKeeping ∈ gtbl := wG 736 (by decide +kernel) (by decide +kernel)
theorem kd_X2_unitsNotKeeping : yX2_unitsNotKeeping.cls = RX2 ∧ yX2_unitsNotKeeping.cls ≠ "java/lang/invoke/MethodHandle" ∧ yX2_unitsNotKeeping.cls ≠ "java/lang/invoke/VarHandle" ∧ (parseMethodDescriptor yX2_unitsNotKeeping.desc).map (fun d => d.parameters.length) = some 0 := by decide +kernel
theorem ks_X2_unitsNotKeeping : Cond.selects RX2 yX2_unitsNotKeeping yX2_unitsNotKeeping ∈ gtbl := wG 737 (by decide +kernel) (by decide +kernel)
abbrev mX2_countStarts : mM := (yX2_countStarts, cX2_countStarts, 3, (some .int))
theorem kc_X2_countStarts : Cond.code yX2_countStarts cX2_countStarts 3 (some .int) ∈ gtbl := wG 752 (by decide +kernel) (by decide +kernel)
theorem ki_X2_countStarts : Cond.instanceMethod yX2_countStarts ∈ gtbl := wG 750 (by decide +kernel) (by decide +kernel)
theorem kd_X2_countStarts : yX2_countStarts.cls = RX2 ∧ yX2_countStarts.cls ≠ "java/lang/invoke/MethodHandle" ∧ yX2_countStarts.cls ≠ "java/lang/invoke/VarHandle" ∧ (parseMethodDescriptor yX2_countStarts.desc).map (fun d => d.parameters.length) = some 0 := by decide +kernel
theorem ks_X2_countStarts : Cond.selects RX2 yX2_countStarts yX2_countStarts ∈ gtbl := wG 751 (by decide +kernel) (by decide +kernel)
abbrev mX3_init : mM := (yX3_init, cX3_init, 1, none)
theorem kc_X3_init : Cond.code yX3_init cX3_init 1 none ∈ gtbl := wG 322 (by decide +kernel) (by decide +kernel)
theorem ki_X3_init : Cond.instanceMethod yX3_init ∈ gtbl := wG 321 (by decide +kernel) (by decide +kernel)
theorem kd_X3_init : yX3_init.cls = RX3 ∧ yX3_init.cls ≠ "java/lang/invoke/MethodHandle" ∧ yX3_init.cls ≠ "java/lang/invoke/VarHandle" ∧ (parseMethodDescriptor yX3_init.desc).map (fun d => d.parameters.length) = some 0 := by decide +kernel
abbrev mX3_takePrices : mM := (yX3_takePrices, cX3_takePrices, 5, none)
theorem kc_X3_takePrices : Cond.code yX3_takePrices cX3_takePrices 5 none ∈ gtbl := wG 772 (by decide +kernel) (by decide +kernel)
theorem ki_X3_takePrices : Cond.instanceMethod yX3_takePrices ∈ gtbl := wG 770 (by decide +kernel) (by decide +kernel)
theorem kd_X3_takePrices : yX3_takePrices.cls = RX3 ∧ yX3_takePrices.cls ≠ "java/lang/invoke/MethodHandle" ∧ yX3_takePrices.cls ≠ "java/lang/invoke/VarHandle" ∧ (parseMethodDescriptor yX3_takePrices.desc).map (fun d => d.parameters.length) = some 3 := by decide +kernel
theorem ks_X3_takePrices : Cond.selects RX3 yX3_takePrices yX3_takePrices ∈ gtbl := wG 771 (by decide +kernel) (by decide +kernel)
abbrev mX3_decide : mM := (yX3_decide, cX3_decide, 4, none)
theorem kc_X3_decide : Cond.code yX3_decide cX3_decide 4 none ∈ gtbl := wG 776 (by decide +kernel) (by decide +kernel)
theorem ki_X3_decide : Cond.instanceMethod yX3_decide ∈ gtbl := wG 774 (by decide +kernel) (by decide +kernel)
theorem kd_X3_decide : yX3_decide.cls = RX3 ∧ yX3_decide.cls ≠ "java/lang/invoke/MethodHandle" ∧ yX3_decide.cls ≠ "java/lang/invoke/VarHandle" ∧ (parseMethodDescriptor yX3_decide.desc).map (fun d => d.parameters.length) = some 2 := by decide +kernel
theorem ks_X3_decide : Cond.selects RX3 yX3_decide yX3_decide ∈ gtbl := wG 775 (by decide +kernel) (by decide +kernel)
abbrev mX3_fillLosses : mM := (yX3_fillLosses, cX3_fillLosses, 11, none)
theorem kc_X3_fillLosses : Cond.code yX3_fillLosses cX3_fillLosses 11 none ∈ gtbl := wG 780 (by decide +kernel) (by decide +kernel)
theorem ki_X3_fillLosses : Cond.instanceMethod yX3_fillLosses ∈ gtbl := wG 779 (by decide +kernel) (by decide +kernel)
theorem kd_X3_fillLosses : yX3_fillLosses.cls = RX3 ∧ yX3_fillLosses.cls ≠ "java/lang/invoke/MethodHandle" ∧ yX3_fillLosses.cls ≠ "java/lang/invoke/VarHandle" ∧ (parseMethodDescriptor yX3_fillLosses.desc).map (fun d => d.parameters.length) = some 2 := by decide +kernel
theorem ks_X3_fillLosses : Cond.selects RX3 yX3_fillLosses yX3_fillLosses ∈ gtbl := wG 28 (by decide +kernel) (by decide +kernel)
abbrev mX3_lossIn : mM := (yX3_lossIn, cX3_lossIn, 5, (some .long))
theorem kc_X3_lossIn : Cond.code yX3_lossIn cX3_lossIn 5 (some .long) ∈ gtbl := wG 784 (by decide +kernel) (by decide +kernel)
theorem ki_X3_lossIn : Cond.instanceMethod yX3_lossIn ∈ gtbl := wG 783 (by decide +kernel) (by decide +kernel)
theorem kd_X3_lossIn : yX3_lossIn.cls = RX3 ∧ yX3_lossIn.cls ≠ "java/lang/invoke/MethodHandle" ∧ yX3_lossIn.cls ≠ "java/lang/invoke/VarHandle" ∧ (parseMethodDescriptor yX3_lossIn.desc).map (fun d => d.parameters.length) = some 4 := by decide +kernel
theorem ks_X3_lossIn : Cond.selects RX3 yX3_lossIn yX3_lossIn ∈ gtbl := wG 29 (by decide +kernel) (by decide +kernel)
abbrev mX3_powerIn : mM := (yX3_powerIn, cX3_powerIn, 5, (some .long))
theorem kc_X3_powerIn : Cond.code yX3_powerIn cX3_powerIn 5 (some .long) ∈ gtbl := wG 788 (by decide +kernel) (by decide +kernel)
theorem ki_X3_powerIn : Cond.instanceMethod yX3_powerIn ∈ gtbl := wG 787 (by decide +kernel) (by decide +kernel)
theorem kd_X3_powerIn : yX3_powerIn.cls = RX3 ∧ yX3_powerIn.cls ≠ "java/lang/invoke/MethodHandle" ∧ yX3_powerIn.cls ≠ "java/lang/invoke/VarHandle" ∧ (parseMethodDescriptor yX3_powerIn.desc).map (fun d => d.parameters.length) = some 4 := by decide +kernel
theorem ks_X3_powerIn : Cond.selects RX3 yX3_powerIn yX3_powerIn ∈ gtbl := wG 30 (by decide +kernel) (by decide +kernel)
abbrev mX3_givenIn : mM := (yX3_givenIn, cX3_givenIn, 4, (some .long))
theorem kc_X3_givenIn : Cond.code yX3_givenIn cX3_givenIn 4 (some .long) ∈ gtbl := wG 794 (by decide +kernel) (by decide +kernel)
theorem ki_X3_givenIn : Cond.instanceMethod yX3_givenIn ∈ gtbl := wG 792 (by decide +kernel) (by decide +kernel)
theorem kd_X3_givenIn : yX3_givenIn.cls = RX3 ∧ yX3_givenIn.cls ≠ "java/lang/invoke/MethodHandle" ∧ yX3_givenIn.cls ≠ "java/lang/invoke/VarHandle" ∧ (parseMethodDescriptor yX3_givenIn.desc).map (fun d => d.parameters.length) = some 3 := by decide +kernel
theorem ks_X3_givenIn : Cond.selects RX3 yX3_givenIn yX3_givenIn ∈ gtbl := wG 793 (by decide +kernel) (by decide +kernel)
abbrev mX3_boundOf : mM := (yX3_boundOf, cX3_boundOf, 6, (some .long))
theorem kc_X3_boundOf : Cond.code yX3_boundOf cX3_boundOf 6 (some .long) ∈ gtbl := wG 804 (by decide +kernel) (by decide +kernel)
theorem ki_X3_boundOf : Cond.instanceMethod yX3_boundOf ∈ gtbl := wG 802 (by decide +kernel) (by decide +kernel)
theorem kd_X3_boundOf : yX3_boundOf.cls = RX3 ∧ yX3_boundOf.cls ≠ "java/lang/invoke/MethodHandle" ∧ yX3_boundOf.cls ≠ "java/lang/invoke/VarHandle" ∧ (parseMethodDescriptor yX3_boundOf.desc).map (fun d => d.parameters.length) = some 1 := by decide +kernel
theorem ks_X3_boundOf : Cond.selects RX3 yX3_boundOf yX3_boundOf ∈ gtbl := wG 803 (by decide +kernel) (by decide +kernel)
abbrev mX3_movePrices : mM := (yX3_movePrices, cX3_movePrices, 7, (some .long))
theorem kc_X3_movePrices : Cond.code yX3_movePrices cX3_movePrices 7 (some .long) ∈ gtbl := wG 814 (by decide +kernel) (by decide +kernel)
theorem ki_X3_movePrices : Cond.instanceMethod yX3_movePrices ∈ gtbl := wG 812 (by decide +kernel) (by decide +kernel)
theorem kd_X3_movePrices : yX3_movePrices.cls = RX3 ∧ yX3_movePrices.cls ≠ "java/lang/invoke/MethodHandle" ∧ yX3_movePrices.cls ≠ "java/lang/invoke/VarHandle" ∧ (parseMethodDescriptor yX3_movePrices.desc).map (fun d => d.parameters.length) = some 2 := by decide +kernel
theorem ks_X3_movePrices : Cond.selects RX3 yX3_movePrices yX3_movePrices ∈ gtbl := wG 813 (by decide +kernel) (by decide +kernel)
abbrev mX4_init : mM := (yX4_init, cX4_init, 1, none)
theorem kc_X4_init : Cond.code yX4_init cX4_init 1 none ∈ gtbl := wG 106 (by decide +kernel) (by decide +kernel)
theorem ki_X4_init : Cond.instanceMethod yX4_init ∈ gtbl := wG 105 (by decide +kernel) (by decide +kernel)
theorem kd_X4_init : yX4_init.cls = RX4 ∧ yX4_init.cls ≠ "java/lang/invoke/MethodHandle" ∧ yX4_init.cls ≠ "java/lang/invoke/VarHandle" ∧ (parseMethodDescriptor yX4_init.desc).map (fun d => d.parameters.length) = some 0 := by decide +kernel
abbrev mX4_make : mM := (yX4_make, cX4_make, 4, none)
theorem kc_X4_make : Cond.code yX4_make cX4_make 4 none ∈ gtbl := wG 427 (by decide +kernel) (by decide +kernel)
theorem ki_X4_make : Cond.instanceMethod yX4_make ∈ gtbl := wG 425 (by decide +kernel) (by decide +kernel)
theorem kd_X4_make : yX4_make.cls = RX4 ∧ yX4_make.cls ≠ "java/lang/invoke/MethodHandle" ∧ yX4_make.cls ≠ "java/lang/invoke/VarHandle" ∧ (parseMethodDescriptor yX4_make.desc).map (fun d => d.parameters.length) = some 3 := by decide +kernel
theorem ks_X4_make : Cond.selects RX4 yX4_make yX4_make ∈ gtbl := wG 426 (by decide +kernel) (by decide +kernel)
abbrev mX4_isMissing : mM := (yX4_isMissing, cX4_isMissing, 2, (some .boolean))
theorem kc_X4_isMissing : Cond.code yX4_isMissing cX4_isMissing 2 (some .boolean) ∈ gtbl := wG 439 (by decide +kernel) (by decide +kernel)
theorem ki_X4_isMissing : Cond.instanceMethod yX4_isMissing ∈ gtbl := wG 437 (by decide +kernel) (by decide +kernel)
theorem kd_X4_isMissing : yX4_isMissing.cls = RX4 ∧ yX4_isMissing.cls ≠ "java/lang/invoke/MethodHandle" ∧ yX4_isMissing.cls ≠ "java/lang/invoke/VarHandle" ∧ (parseMethodDescriptor yX4_isMissing.desc).map (fun d => d.parameters.length) = some 1 := by decide +kernel
theorem ks_X4_isMissing : Cond.selects RX4 yX4_isMissing yX4_isMissing ∈ gtbl := wG 438 (by decide +kernel) (by decide +kernel)
abbrev mX4_lacks : mM := (yX4_lacks, cX4_lacks, 4, (some .boolean))
theorem kc_X4_lacks : Cond.code yX4_lacks cX4_lacks 4 (some .boolean) ∈ gtbl := wG 443 (by decide +kernel) (by decide +kernel)
theorem ki_X4_lacks : Cond.instanceMethod yX4_lacks ∈ gtbl := wG 441 (by decide +kernel) (by decide +kernel)
theorem kd_X4_lacks : yX4_lacks.cls = RX4 ∧ yX4_lacks.cls ≠ "java/lang/invoke/MethodHandle" ∧ yX4_lacks.cls ≠ "java/lang/invoke/VarHandle" ∧ (parseMethodDescriptor yX4_lacks.desc).map (fun d => d.parameters.length) = some 3 := by decide +kernel
theorem ks_X4_lacks : Cond.selects RX4 yX4_lacks yX4_lacks ∈ gtbl := wG 442 (by decide +kernel) (by decide +kernel)
abbrev mX4_put : mM := (yX4_put, cX4_put, 5, (some .int))
theorem kc_X4_put : Cond.code yX4_put cX4_put 5 (some .int) ∈ gtbl := wG 447 (by decide +kernel) (by decide +kernel)
theorem ki_X4_put : Cond.instanceMethod yX4_put ∈ gtbl := wG 445 (by decide +kernel) (by decide +kernel)
theorem kd_X4_put : yX4_put.cls = RX4 ∧ yX4_put.cls ≠ "java/lang/invoke/MethodHandle" ∧ yX4_put.cls ≠ "java/lang/invoke/VarHandle" ∧ (parseMethodDescriptor yX4_put.desc).map (fun d => d.parameters.length) = some 3 := by decide +kernel
theorem ks_X4_put : Cond.selects RX4 yX4_put yX4_put ∈ gtbl := wG 446 (by decide +kernel) (by decide +kernel)
abbrev mX4_lose : mM := (yX4_lose, cX4_lose, 3, (some .int))
theorem kc_X4_lose : Cond.code yX4_lose cX4_lose 3 (some .int) ∈ gtbl := wG 462 (by decide +kernel) (by decide +kernel)
theorem ki_X4_lose : Cond.instanceMethod yX4_lose ∈ gtbl := wG 460 (by decide +kernel) (by decide +kernel)
theorem kd_X4_lose : yX4_lose.cls = RX4 ∧ yX4_lose.cls ≠ "java/lang/invoke/MethodHandle" ∧ yX4_lose.cls ≠ "java/lang/invoke/VarHandle" ∧ (parseMethodDescriptor yX4_lose.desc).map (fun d => d.parameters.length) = some 1 := by decide +kernel
theorem ks_X4_lose : Cond.selects RX4 yX4_lose yX4_lose ∈ gtbl := wG 461 (by decide +kernel) (by decide +kernel)
abbrev mX4_countThere : mM := (yX4_countThere, cX4_countThere, 3, (some .int))
theorem kc_X4_countThere : Cond.code yX4_countThere cX4_countThere 3 (some .int) ∈ gtbl := wG 978 (by decide +kernel) (by decide +kernel)
theorem ki_X4_countThere : Cond.instanceMethod yX4_countThere ∈ gtbl := wG 976 (by decide +kernel) (by decide +kernel)
theorem kd_X4_countThere : yX4_countThere.cls = RX4 ∧ yX4_countThere.cls ≠ "java/lang/invoke/MethodHandle" ∧ yX4_countThere.cls ≠ "java/lang/invoke/VarHandle" ∧ (parseMethodDescriptor yX4_countThere.desc).map (fun d => d.parameters.length) = some 0 := by decide +kernel
theorem ks_X4_countThere : Cond.selects RX4 yX4_countThere yX4_countThere ∈ gtbl := wG 977 (by decide +kernel) (by decide +kernel)
abbrev mX5_init : mM := (yX5_init, cX5_init, 5, none)
theorem kc_X5_init : Cond.code yX5_init cX5_init 5 none ∈ gtbl := wG 268 (by decide +kernel) (by decide +kernel)
theorem ki_X5_init : Cond.instanceMethod yX5_init ∈ gtbl := wG 267 (by decide +kernel) (by decide +kernel)
theorem kd_X5_init : yX5_init.cls = RX5 ∧ yX5_init.cls ≠ "java/lang/invoke/MethodHandle" ∧ yX5_init.cls ≠ "java/lang/invoke/VarHandle" ∧ (parseMethodDescriptor yX5_init.desc).map (fun d => d.parameters.length) = some 0 := by decide +kernel
abbrev mX5_costOf : mM := (yX5_costOf, cX5_costOf, 2, (some .int))
theorem kc_X5_costOf : Cond.code yX5_costOf cX5_costOf 2 (some .int) ∈ gtbl := wG 636 (by decide +kernel) (by decide +kernel)
theorem kt_X5_costOf : Cond.static yX5_costOf ∈ gtbl := wG 635 (by decide +kernel) (by decide +kernel)
theorem kd_X5_costOf : yX5_costOf.cls = RX5 ∧ yX5_costOf.cls ≠ "java/lang/invoke/MethodHandle" ∧ yX5_costOf.cls ≠ "java/lang/invoke/VarHandle" ∧ (parseMethodDescriptor yX5_costOf.desc).map (fun d => d.parameters.length) = some 1 := by decide +kernel
abbrev mX5_unitsIn : mM := (yX5_unitsIn, cX5_unitsIn, 3, (some .int))
theorem kc_X5_unitsIn : Cond.code yX5_unitsIn cX5_unitsIn 3 (some .int) ∈ gtbl := wG 633 (by decide +kernel) (by decide +kernel)
theorem kt_X5_unitsIn : Cond.static yX5_unitsIn ∈ gtbl := wG 632 (by decide +kernel) (by decide +kernel)
theorem kd_X5_unitsIn : yX5_unitsIn.cls = RX5 ∧ yX5_unitsIn.cls ≠ "java/lang/invoke/MethodHandle" ∧ yX5_unitsIn.cls ≠ "java/lang/invoke/VarHandle" ∧ (parseMethodDescriptor yX5_unitsIn.desc).map (fun d => d.parameters.length) = some 2 := by decide +kernel
abbrev mX5_hoursOf : mM := (yX5_hoursOf, cX5_hoursOf, 5, (some .int))
theorem kc_X5_hoursOf : Cond.code yX5_hoursOf cX5_hoursOf 5 (some .int) ∈ gtbl := wG 630 (by decide +kernel) (by decide +kernel)
theorem kt_X5_hoursOf : Cond.static yX5_hoursOf ∈ gtbl := wG 629 (by decide +kernel) (by decide +kernel)
theorem kd_X5_hoursOf : yX5_hoursOf.cls = RX5 ∧ yX5_hoursOf.cls ≠ "java/lang/invoke/MethodHandle" ∧ yX5_hoursOf.cls ≠ "java/lang/invoke/VarHandle" ∧ (parseMethodDescriptor yX5_hoursOf.desc).map (fun d => d.parameters.length) = some 2 := by decide +kernel
abbrev mX5_shiftOf : mM := (yX5_shiftOf, cX5_shiftOf, 1, (some .int))
theorem kc_X5_shiftOf : Cond.code yX5_shiftOf cX5_shiftOf 1 (some .int) ∈ gtbl := wG 621 (by decide +kernel) (by decide +kernel)
theorem kt_X5_shiftOf : Cond.static yX5_shiftOf ∈ gtbl := wG 620 (by decide +kernel) (by decide +kernel)
theorem kd_X5_shiftOf : yX5_shiftOf.cls = RX5 ∧ yX5_shiftOf.cls ≠ "java/lang/invoke/MethodHandle" ∧ yX5_shiftOf.cls ≠ "java/lang/invoke/VarHandle" ∧ (parseMethodDescriptor yX5_shiftOf.desc).map (fun d => d.parameters.length) = some 1 := by decide +kernel
abbrev mX5_findBest : mM := (yX5_findBest, cX5_findBest, 6, (some .long))
theorem kc_X5_findBest : Cond.code yX5_findBest cX5_findBest 6 (some .long) ∈ gtbl := wG 576 (by decide +kernel) (by decide +kernel)
theorem ki_X5_findBest : Cond.instanceMethod yX5_findBest ∈ gtbl := wG 574 (by decide +kernel) (by decide +kernel)
theorem kd_X5_findBest : yX5_findBest.cls = RX5 ∧ yX5_findBest.cls ≠ "java/lang/invoke/MethodHandle" ∧ yX5_findBest.cls ≠ "java/lang/invoke/VarHandle" ∧ (parseMethodDescriptor yX5_findBest.desc).map (fun d => d.parameters.length) = some 2 := by decide +kernel
theorem ks_X5_findBest : Cond.selects RX5 yX5_findBest yX5_findBest ∈ gtbl := wG 575 (by decide +kernel) (by decide +kernel)
abbrev mX5_lookAround : mM := (yX5_lookAround, cX5_lookAround, 5, none)
theorem kc_X5_lookAround : Cond.code yX5_lookAround cX5_lookAround 5 none ∈ gtbl := wG 846 (by decide +kernel) (by decide +kernel)
theorem ki_X5_lookAround : Cond.instanceMethod yX5_lookAround ∈ gtbl := wG 844 (by decide +kernel) (by decide +kernel)
theorem kd_X5_lookAround : yX5_lookAround.cls = RX5 ∧ yX5_lookAround.cls ≠ "java/lang/invoke/MethodHandle" ∧ yX5_lookAround.cls ≠ "java/lang/invoke/VarHandle" ∧ (parseMethodDescriptor yX5_lookAround.desc).map (fun d => d.parameters.length) = some 2 := by decide +kernel
theorem ks_X5_lookAround : Cond.selects RX5 yX5_lookAround yX5_lookAround ∈ gtbl := wG 845 (by decide +kernel) (by decide +kernel)
abbrev mX5_costAround : mM := (yX5_costAround, cX5_costAround, 7, (some .int))
theorem kc_X5_costAround : Cond.code yX5_costAround cX5_costAround 7 (some .int) ∈ gtbl := wG 862 (by decide +kernel) (by decide +kernel)
theorem ki_X5_costAround : Cond.instanceMethod yX5_costAround ∈ gtbl := wG 860 (by decide +kernel) (by decide +kernel)
theorem kd_X5_costAround : yX5_costAround.cls = RX5 ∧ yX5_costAround.cls ≠ "java/lang/invoke/MethodHandle" ∧ yX5_costAround.cls ≠ "java/lang/invoke/VarHandle" ∧ (parseMethodDescriptor yX5_costAround.desc).map (fun d => d.parameters.length) = some 2 := by decide +kernel
theorem ks_X5_costAround : Cond.selects RX5 yX5_costAround yX5_costAround ∈ gtbl := wG 861 (by decide +kernel) (by decide +kernel)
abbrev mX5_walk : mM := (yX5_walk, cX5_walk, 4, none)
theorem kc_X5_walk : Cond.code yX5_walk cX5_walk 4 none ∈ gtbl := wG 600 (by decide +kernel) (by decide +kernel)
theorem ki_X5_walk : Cond.instanceMethod yX5_walk ∈ gtbl := wG 599 (by decide +kernel) (by decide +kernel)
theorem kd_X5_walk : yX5_walk.cls = RX5 ∧ yX5_walk.cls ≠ "java/lang/invoke/MethodHandle" ∧ yX5_walk.cls ≠ "java/lang/invoke/VarHandle" ∧ (parseMethodDescriptor yX5_walk.desc).map (fun d => d.parameters.length) = some 2 := by decide +kernel
theorem ks_X5_walk : Cond.selects RX5 yX5_walk yX5_walk ∈ gtbl := wG 21 (by decide +kernel) (by decide +kernel)
abbrev mX5_walkBack : mM := (yX5_walkBack, cX5_walkBack, 4, none)
theorem kc_X5_walkBack : Cond.code yX5_walkBack cX5_walkBack 4 none ∈ gtbl := wG 850 (by decide +kernel) (by decide +kernel)
theorem ki_X5_walkBack : Cond.instanceMethod yX5_walkBack ∈ gtbl := wG 849 (by decide +kernel) (by decide +kernel)
theorem kd_X5_walkBack : yX5_walkBack.cls = RX5 ∧ yX5_walkBack.cls ≠ "java/lang/invoke/MethodHandle" ∧ yX5_walkBack.cls ≠ "java/lang/invoke/VarHandle" ∧ (parseMethodDescriptor yX5_walkBack.desc).map (fun d => d.parameters.length) = some 2 := by decide +kernel
theorem ks_X5_walkBack : Cond.selects RX5 yX5_walkBack yX5_walkBack ∈ gtbl := wG 32 (by decide +kernel) (by decide +kernel)
abbrev mX5_fillStates : mM := (yX5_fillStates, cX5_fillStates, 5, none)
theorem kc_X5_fillStates : Cond.code yX5_fillStates cX5_fillStates 5 none ∈ gtbl := wG 605 (by decide +kernel) (by decide +kernel)
theorem ki_X5_fillStates : Cond.instanceMethod yX5_fillStates ∈ gtbl := wG 604 (by decide +kernel) (by decide +kernel)
theorem kd_X5_fillStates : yX5_fillStates.cls = RX5 ∧ yX5_fillStates.cls ≠ "java/lang/invoke/MethodHandle" ∧ yX5_fillStates.cls ≠ "java/lang/invoke/VarHandle" ∧ (parseMethodDescriptor yX5_fillStates.desc).map (fun d => d.parameters.length) = some 2 := by decide +kernel
theorem ks_X5_fillStates : Cond.selects RX5 yX5_fillStates yX5_fillStates ∈ gtbl := wG 22 (by decide +kernel) (by decide +kernel)
abbrev mX5_costCombos : mM := (yX5_costCombos, cX5_costCombos, 7, none)
theorem kc_X5_costCombos : Cond.code yX5_costCombos cX5_costCombos 7 none ∈ gtbl := wG 613 (by decide +kernel) (by decide +kernel)
theorem ki_X5_costCombos : Cond.instanceMethod yX5_costCombos ∈ gtbl := wG 612 (by decide +kernel) (by decide +kernel)
theorem kd_X5_costCombos : yX5_costCombos.cls = RX5 ∧ yX5_costCombos.cls ≠ "java/lang/invoke/MethodHandle" ∧ yX5_costCombos.cls ≠ "java/lang/invoke/VarHandle" ∧ (parseMethodDescriptor yX5_costCombos.desc).map (fun d => d.parameters.length) = some 2 := by decide +kernel
theorem ks_X5_costCombos : Cond.selects RX5 yX5_costCombos yX5_costCombos ∈ gtbl := wG 24 (by decide +kernel) (by decide +kernel)
abbrev mX5_addParts : mM := (yX5_addParts, cX5_addParts, 5, none)
theorem kc_X5_addParts : Cond.code yX5_addParts cX5_addParts 5 none ∈ gtbl := wG 625 (by decide +kernel) (by decide +kernel)
theorem ki_X5_addParts : Cond.instanceMethod yX5_addParts ∈ gtbl := wG 624 (by decide +kernel) (by decide +kernel)
theorem kd_X5_addParts : yX5_addParts.cls = RX5 ∧ yX5_addParts.cls ≠ "java/lang/invoke/MethodHandle" ∧ yX5_addParts.cls ≠ "java/lang/invoke/VarHandle" ∧ (parseMethodDescriptor yX5_addParts.desc).map (fun d => d.parameters.length) = some 1 := by decide +kernel
theorem ks_X5_addParts : Cond.selects RX5 yX5_addParts yX5_addParts ∈ gtbl := wG 25 (by decide +kernel) (by decide +kernel)
abbrev mX5_turnAll : mM := (yX5_turnAll, cX5_turnAll, 10, none)
theorem kc_X5_turnAll : Cond.code yX5_turnAll cX5_turnAll 10 none ∈ gtbl := wG 609 (by decide +kernel) (by decide +kernel)
theorem ki_X5_turnAll : Cond.instanceMethod yX5_turnAll ∈ gtbl := wG 608 (by decide +kernel) (by decide +kernel)
theorem kd_X5_turnAll : yX5_turnAll.cls = RX5 ∧ yX5_turnAll.cls ≠ "java/lang/invoke/MethodHandle" ∧ yX5_turnAll.cls ≠ "java/lang/invoke/VarHandle" ∧ (parseMethodDescriptor yX5_turnAll.desc).map (fun d => d.parameters.length) = some 0 := by decide +kernel
theorem ks_X5_turnAll : Cond.selects RX5 yX5_turnAll yX5_turnAll ∈ gtbl := wG 23 (by decide +kernel) (by decide +kernel)
abbrev mX5_turnAllBack : mM := (yX5_turnAllBack, cX5_turnAllBack, 10, none)
theorem kc_X5_turnAllBack : Cond.code yX5_turnAllBack cX5_turnAllBack 10 none ∈ gtbl := wG 854 (by decide +kernel) (by decide +kernel)
theorem ki_X5_turnAllBack : Cond.instanceMethod yX5_turnAllBack ∈ gtbl := wG 853 (by decide +kernel) (by decide +kernel)
theorem kd_X5_turnAllBack : yX5_turnAllBack.cls = RX5 ∧ yX5_turnAllBack.cls ≠ "java/lang/invoke/MethodHandle" ∧ yX5_turnAllBack.cls ≠ "java/lang/invoke/VarHandle" ∧ (parseMethodDescriptor yX5_turnAllBack.desc).map (fun d => d.parameters.length) = some 0 := by decide +kernel
theorem ks_X5_turnAllBack : Cond.selects RX5 yX5_turnAllBack yX5_turnAllBack ∈ gtbl := wG 33 (by decide +kernel) (by decide +kernel)
abbrev mX5_layStates : mM := (yX5_layStates, cX5_layStates, 4, none)
theorem kc_X5_layStates : Cond.code yX5_layStates cX5_layStates 4 none ∈ gtbl := wG 580 (by decide +kernel) (by decide +kernel)
theorem ki_X5_layStates : Cond.instanceMethod yX5_layStates ∈ gtbl := wG 579 (by decide +kernel) (by decide +kernel)
theorem kd_X5_layStates : yX5_layStates.cls = RX5 ∧ yX5_layStates.cls ≠ "java/lang/invoke/MethodHandle" ∧ yX5_layStates.cls ≠ "java/lang/invoke/VarHandle" ∧ (parseMethodDescriptor yX5_layStates.desc).map (fun d => d.parameters.length) = some 2 := by decide +kernel
theorem ks_X5_layStates : Cond.selects RX5 yX5_layStates yX5_layStates ∈ gtbl := wG 17 (by decide +kernel) (by decide +kernel)
abbrev mX5_layOnlyState : mM := (yX5_layOnlyState, cX5_layOnlyState, 3, none)
theorem kc_X5_layOnlyState : Cond.code yX5_layOnlyState cX5_layOnlyState 3 none ∈ gtbl := wG 584 (by decide +kernel) (by decide +kernel)
theorem ki_X5_layOnlyState : Cond.instanceMethod yX5_layOnlyState ∈ gtbl := wG 583 (by decide +kernel) (by decide +kernel)
theorem kd_X5_layOnlyState : yX5_layOnlyState.cls = RX5 ∧ yX5_layOnlyState.cls ≠ "java/lang/invoke/MethodHandle" ∧ yX5_layOnlyState.cls ≠ "java/lang/invoke/VarHandle" ∧ (parseMethodDescriptor yX5_layOnlyState.desc).map (fun d => d.parameters.length) = some 2 := by decide +kernel
theorem ks_X5_layOnlyState : Cond.selects RX5 yX5_layOnlyState yX5_layOnlyState ∈ gtbl := wG 18 (by decide +kernel) (by decide +kernel)
abbrev mX5_layUnitStates : mM := (yX5_layUnitStates, cX5_layUnitStates, 7, none)
theorem kc_X5_layUnitStates : Cond.code yX5_layUnitStates cX5_layUnitStates 7 none ∈ gtbl := wG 593 (by decide +kernel) (by decide +kernel)
theorem ki_X5_layUnitStates : Cond.instanceMethod yX5_layUnitStates ∈ gtbl := wG 592 (by decide +kernel) (by decide +kernel)
theorem kd_X5_layUnitStates : yX5_layUnitStates.cls = RX5 ∧ yX5_layUnitStates.cls ≠ "java/lang/invoke/MethodHandle" ∧ yX5_layUnitStates.cls ≠ "java/lang/invoke/VarHandle" ∧ (parseMethodDescriptor yX5_layUnitStates.desc).map (fun d => d.parameters.length) = some 3 := by decide +kernel
theorem ks_X5_layUnitStates : Cond.selects RX5 yX5_layUnitStates yX5_layUnitStates ∈ gtbl := wG 20 (by decide +kernel) (by decide +kernel)
abbrev mX5_layCombos : mM := (yX5_layCombos, cX5_layCombos, 4, none)
theorem kc_X5_layCombos : Cond.code yX5_layCombos cX5_layCombos 4 none ∈ gtbl := wG 589 (by decide +kernel) (by decide +kernel)
theorem ki_X5_layCombos : Cond.instanceMethod yX5_layCombos ∈ gtbl := wG 588 (by decide +kernel) (by decide +kernel)
theorem kd_X5_layCombos : yX5_layCombos.cls = RX5 ∧ yX5_layCombos.cls ≠ "java/lang/invoke/MethodHandle" ∧ yX5_layCombos.cls ≠ "java/lang/invoke/VarHandle" ∧ (parseMethodDescriptor yX5_layCombos.desc).map (fun d => d.parameters.length) = some 2 := by decide +kernel
theorem ks_X5_layCombos : Cond.selects RX5 yX5_layCombos yX5_layCombos ∈ gtbl := wG 19 (by decide +kernel) (by decide +kernel)
abbrev mX6_init : mM := (yX6_init, cX6_init, 1, none)
theorem kc_X6_init : Cond.code yX6_init cX6_init 1 none ∈ gtbl := wG 130 (by decide +kernel) (by decide +kernel)
theorem ki_X6_init : Cond.instanceMethod yX6_init ∈ gtbl := wG 129 (by decide +kernel) (by decide +kernel)
theorem kd_X6_init : yX6_init.cls = RX6 ∧ yX6_init.cls ≠ "java/lang/invoke/MethodHandle" ∧ yX6_init.cls ≠ "java/lang/invoke/VarHandle" ∧ (parseMethodDescriptor yX6_init.desc).map (fun d => d.parameters.length) = some 0 := by decide +kernel
abbrev mX6_isFull : mM := (yX6_isFull, cX6_isFull, 1, (some .boolean))
theorem kc_X6_isFull : Cond.code yX6_isFull cX6_isFull 1 (some .boolean) ∈ gtbl := wG 470 (by decide +kernel) (by decide +kernel)
theorem ki_X6_isFull : Cond.instanceMethod yX6_isFull ∈ gtbl := wG 468 (by decide +kernel) (by decide +kernel)
theorem kd_X6_isFull : yX6_isFull.cls = RX6 ∧ yX6_isFull.cls ≠ "java/lang/invoke/MethodHandle" ∧ yX6_isFull.cls ≠ "java/lang/invoke/VarHandle" ∧ (parseMethodDescriptor yX6_isFull.desc).map (fun d => d.parameters.length) = some 0 := by decide +kernel
theorem ks_X6_isFull : Cond.selects RX6 yX6_isFull yX6_isFull ∈ gtbl := wG 469 (by decide +kernel) (by decide +kernel)
abbrev mX6_add : mM := (yX6_add, cX6_add, 2, (some .int))
theorem kc_X6_add : Cond.code yX6_add cX6_add 2 (some .int) ∈ gtbl := wG 475 (by decide +kernel) (by decide +kernel)
theorem ki_X6_add : Cond.instanceMethod yX6_add ∈ gtbl := wG 473 (by decide +kernel) (by decide +kernel)
theorem kd_X6_add : yX6_add.cls = RX6 ∧ yX6_add.cls ≠ "java/lang/invoke/MethodHandle" ∧ yX6_add.cls ≠ "java/lang/invoke/VarHandle" ∧ (parseMethodDescriptor yX6_add.desc).map (fun d => d.parameters.length) = some 1 := by decide +kernel
theorem ks_X6_add : Cond.selects RX6 yX6_add yX6_add ∈ gtbl := wG 474 (by decide +kernel) (by decide +kernel)
abbrev mX6_readInto : mM := (yX6_readInto, cX6_readInto, 2, none)
theorem kc_X6_readInto : Cond.code yX6_readInto cX6_readInto 2 none ∈ gtbl := wG 483 (by decide +kernel) (by decide +kernel)
theorem ki_X6_readInto : Cond.instanceMethod yX6_readInto ∈ gtbl := wG 481 (by decide +kernel) (by decide +kernel)
theorem kd_X6_readInto : yX6_readInto.cls = RX6 ∧ yX6_readInto.cls ≠ "java/lang/invoke/MethodHandle" ∧ yX6_readInto.cls ≠ "java/lang/invoke/VarHandle" ∧ (parseMethodDescriptor yX6_readInto.desc).map (fun d => d.parameters.length) = some 1 := by decide +kernel
theorem ks_X6_readInto : Cond.selects RX6 yX6_readInto yX6_readInto ∈ gtbl := wG 482 (by decide +kernel) (by decide +kernel)
abbrev mX6_readHours : mM := (yX6_readHours, cX6_readHours, 3, none)
theorem kc_X6_readHours : Cond.code yX6_readHours cX6_readHours 3 none ∈ gtbl := wG 504 (by decide +kernel) (by decide +kernel)
theorem ki_X6_readHours : Cond.instanceMethod yX6_readHours ∈ gtbl := wG 503 (by decide +kernel) (by decide +kernel)
theorem kd_X6_readHours : yX6_readHours.cls = RX6 ∧ yX6_readHours.cls ≠ "java/lang/invoke/MethodHandle" ∧ yX6_readHours.cls ≠ "java/lang/invoke/VarHandle" ∧ (parseMethodDescriptor yX6_readHours.desc).map (fun d => d.parameters.length) = some 1 := by decide +kernel
theorem ks_X6_readHours : Cond.selects RX6 yX6_readHours yX6_readHours ∈ gtbl := wG 7 (by decide +kernel) (by decide +kernel)
abbrev mX6_readUnits : mM := (yX6_readUnits, cX6_readUnits, 4, none)
theorem kc_X6_readUnits : Cond.code yX6_readUnits cX6_readUnits 4 none ∈ gtbl := wG 508 (by decide +kernel) (by decide +kernel)
theorem ki_X6_readUnits : Cond.instanceMethod yX6_readUnits ∈ gtbl := wG 507 (by decide +kernel) (by decide +kernel)
theorem kd_X6_readUnits : yX6_readUnits.cls = RX6 ∧ yX6_readUnits.cls ≠ "java/lang/invoke/MethodHandle" ∧ yX6_readUnits.cls ≠ "java/lang/invoke/VarHandle" ∧ (parseMethodDescriptor yX6_readUnits.desc).map (fun d => d.parameters.length) = some 1 := by decide +kernel
theorem ks_X6_readUnits : Cond.selects RX6 yX6_readUnits yX6_readUnits ∈ gtbl := wG 8 (by decide +kernel) (by decide +kernel)
abbrev mX6_readUnit : mM := (yX6_readUnit, cX6_readUnit, 3, none)
theorem kc_X6_readUnit : Cond.code yX6_readUnit cX6_readUnit 3 none ∈ gtbl := wG 516 (by decide +kernel) (by decide +kernel)
theorem ki_X6_readUnit : Cond.instanceMethod yX6_readUnit ∈ gtbl := wG 515 (by decide +kernel) (by decide +kernel)
theorem kd_X6_readUnit : yX6_readUnit.cls = RX6 ∧ yX6_readUnit.cls ≠ "java/lang/invoke/MethodHandle" ∧ yX6_readUnit.cls ≠ "java/lang/invoke/VarHandle" ∧ (parseMethodDescriptor yX6_readUnit.desc).map (fun d => d.parameters.length) = some 2 := by decide +kernel
theorem ks_X6_readUnit : Cond.selects RX6 yX6_readUnit yX6_readUnit ∈ gtbl := wG 10 (by decide +kernel) (by decide +kernel)
abbrev mX6_kindOfSort : mM := (yX6_kindOfSort, cX6_kindOfSort, 2, (some .int))
theorem kc_X6_kindOfSort : Cond.code yX6_kindOfSort cX6_kindOfSort 2 (some .int) ∈ gtbl := wG 512 (by decide +kernel) (by decide +kernel)
theorem ki_X6_kindOfSort : Cond.instanceMethod yX6_kindOfSort ∈ gtbl := wG 511 (by decide +kernel) (by decide +kernel)
theorem kd_X6_kindOfSort : yX6_kindOfSort.cls = RX6 ∧ yX6_kindOfSort.cls ≠ "java/lang/invoke/MethodHandle" ∧ yX6_kindOfSort.cls ≠ "java/lang/invoke/VarHandle" ∧ (parseMethodDescriptor yX6_kindOfSort.desc).map (fun d => d.parameters.length) = some 1 := by decide +kernel
theorem ks_X6_kindOfSort : Cond.selects RX6 yX6_kindOfSort yX6_kindOfSort ∈ gtbl := wG 9 (by decide +kernel) (by decide +kernel)
abbrev mX6_next : mM := (yX6_next, cX6_next, 1, (some .int))
theorem kc_X6_next : Cond.code yX6_next cX6_next 1 (some .int) ∈ gtbl := wG 492 (by decide +kernel) (by decide +kernel)
theorem ki_X6_next : Cond.instanceMethod yX6_next ∈ gtbl := wG 491 (by decide +kernel) (by decide +kernel)
theorem kd_X6_next : yX6_next.cls = RX6 ∧ yX6_next.cls ≠ "java/lang/invoke/MethodHandle" ∧ yX6_next.cls ≠ "java/lang/invoke/VarHandle" ∧ (parseMethodDescriptor yX6_next.desc).map (fun d => d.parameters.length) = some 0 := by decide +kernel
theorem ks_X6_next : Cond.selects RX6 yX6_next yX6_next ∈ gtbl := wG 4 (by decide +kernel) (by decide +kernel)
abbrev mX6_isFigure : mM := (yX6_isFigure, cX6_isFigure, 2, (some .boolean))
theorem kc_X6_isFigure : Cond.code yX6_isFigure cX6_isFigure 2 (some .boolean) ∈ gtbl := wG 500 (by decide +kernel) (by decide +kernel)
theorem ki_X6_isFigure : Cond.instanceMethod yX6_isFigure ∈ gtbl := wG 499 (by decide +kernel) (by decide +kernel)
theorem kd_X6_isFigure : yX6_isFigure.cls = RX6 ∧ yX6_isFigure.cls ≠ "java/lang/invoke/MethodHandle" ∧ yX6_isFigure.cls ≠ "java/lang/invoke/VarHandle" ∧ (parseMethodDescriptor yX6_isFigure.desc).map (fun d => d.parameters.length) = some 1 := by decide +kernel
theorem ks_X6_isFigure : Cond.selects RX6 yX6_isFigure yX6_isFigure ∈ gtbl := wG 6 (by decide +kernel) (by decide +kernel)
abbrev mX6_readSign : mM := (yX6_readSign, cX6_readSign, 2, none)
theorem kc_X6_readSign : Cond.code yX6_readSign cX6_readSign 2 none ∈ gtbl := wG 488 (by decide +kernel) (by decide +kernel)
theorem ki_X6_readSign : Cond.instanceMethod yX6_readSign ∈ gtbl := wG 487 (by decide +kernel) (by decide +kernel)
theorem kd_X6_readSign : yX6_readSign.cls = RX6 ∧ yX6_readSign.cls ≠ "java/lang/invoke/MethodHandle" ∧ yX6_readSign.cls ≠ "java/lang/invoke/VarHandle" ∧ (parseMethodDescriptor yX6_readSign.desc).map (fun d => d.parameters.length) = some 1 := by decide +kernel
theorem ks_X6_readSign : Cond.selects RX6 yX6_readSign yX6_readSign ∈ gtbl := wG 3 (by decide +kernel) (by decide +kernel)
abbrev mX6_readNumber : mM := (yX6_readNumber, cX6_readNumber, 5, (some .int))
theorem kc_X6_readNumber : Cond.code yX6_readNumber cX6_readNumber 5 (some .int) ∈ gtbl := wG 496 (by decide +kernel) (by decide +kernel)
theorem ki_X6_readNumber : Cond.instanceMethod yX6_readNumber ∈ gtbl := wG 495 (by decide +kernel) (by decide +kernel)
theorem kd_X6_readNumber : yX6_readNumber.cls = RX6 ∧ yX6_readNumber.cls ≠ "java/lang/invoke/MethodHandle" ∧ yX6_readNumber.cls ≠ "java/lang/invoke/VarHandle" ∧ (parseMethodDescriptor yX6_readNumber.desc).map (fun d => d.parameters.length) = some 2 := by decide +kernel
theorem ks_X6_readNumber : Cond.selects RX6 yX6_readNumber yX6_readNumber ∈ gtbl := wG 5 (by decide +kernel) (by decide +kernel)
abbrev mX7_init : mM := (yX7_init, cX7_init, 2, none)
theorem kc_X7_init : Cond.code yX7_init cX7_init 2 none ∈ gtbl := wG 98 (by decide +kernel) (by decide +kernel)
theorem ki_X7_init : Cond.instanceMethod yX7_init ∈ gtbl := wG 97 (by decide +kernel) (by decide +kernel)
theorem kd_X7_init : yX7_init.cls = RX7 ∧ yX7_init.cls ≠ "java/lang/invoke/MethodHandle" ∧ yX7_init.cls ≠ "java/lang/invoke/VarHandle" ∧ (parseMethodDescriptor yX7_init.desc).map (fun d => d.parameters.length) = some 0 := by decide +kernel
abbrev mX7_row : mM := (yX7_row, cX7_row, 4, (some .int))
theorem kc_X7_row : Cond.code yX7_row cX7_row 4 (some .int) ∈ gtbl := wG 413 (by decide +kernel) (by decide +kernel)
theorem ki_X7_row : Cond.instanceMethod yX7_row ∈ gtbl := wG 411 (by decide +kernel) (by decide +kernel)
theorem kd_X7_row : yX7_row.cls = RX7 ∧ yX7_row.cls ≠ "java/lang/invoke/MethodHandle" ∧ yX7_row.cls ≠ "java/lang/invoke/VarHandle" ∧ (parseMethodDescriptor yX7_row.desc).map (fun d => d.parameters.length) = some 3 := by decide +kernel
theorem ks_X7_row : Cond.selects RX7 yX7_row yX7_row ∈ gtbl := wG 412 (by decide +kernel) (by decide +kernel)
abbrev mX7_set : mM := (yX7_set, cX7_set, 4, (some .int))
theorem kc_X7_set : Cond.code yX7_set cX7_set 4 (some .int) ∈ gtbl := wG 435 (by decide +kernel) (by decide +kernel)
theorem ki_X7_set : Cond.instanceMethod yX7_set ∈ gtbl := wG 433 (by decide +kernel) (by decide +kernel)
theorem kd_X7_set : yX7_set.cls = RX7 ∧ yX7_set.cls ≠ "java/lang/invoke/MethodHandle" ∧ yX7_set.cls ≠ "java/lang/invoke/VarHandle" ∧ (parseMethodDescriptor yX7_set.desc).map (fun d => d.parameters.length) = some 3 := by decide +kernel
theorem ks_X7_set : Cond.selects RX7 yX7_set yX7_set ∈ gtbl := wG 434 (by decide +kernel) (by decide +kernel)
abbrev mX7_copy : mM := (yX7_copy, cX7_copy, 6, (some .int))
theorem kc_X7_copy : Cond.code yX7_copy cX7_copy 6 (some .int) ∈ gtbl := wG 451 (by decide +kernel) (by decide +kernel)
theorem ki_X7_copy : Cond.instanceMethod yX7_copy ∈ gtbl := wG 449 (by decide +kernel) (by decide +kernel)
theorem kd_X7_copy : yX7_copy.cls = RX7 ∧ yX7_copy.cls ≠ "java/lang/invoke/MethodHandle" ∧ yX7_copy.cls ≠ "java/lang/invoke/VarHandle" ∧ (parseMethodDescriptor yX7_copy.desc).map (fun d => d.parameters.length) = some 5 := by decide +kernel
theorem ks_X7_copy : Cond.selects RX7 yX7_copy yX7_copy ∈ gtbl := wG 450 (by decide +kernel) (by decide +kernel)
abbrev mX7_drop : mM := (yX7_drop, cX7_drop, 2, (some .int))
theorem kc_X7_drop : Cond.code yX7_drop cX7_drop 2 (some .int) ∈ gtbl := wG 458 (by decide +kernel) (by decide +kernel)
theorem ki_X7_drop : Cond.instanceMethod yX7_drop ∈ gtbl := wG 456 (by decide +kernel) (by decide +kernel)
theorem kd_X7_drop : yX7_drop.cls = RX7 ∧ yX7_drop.cls ≠ "java/lang/invoke/MethodHandle" ∧ yX7_drop.cls ≠ "java/lang/invoke/VarHandle" ∧ (parseMethodDescriptor yX7_drop.desc).map (fun d => d.parameters.length) = some 1 := by decide +kernel
theorem ks_X7_drop : Cond.selects RX7 yX7_drop yX7_drop ∈ gtbl := wG 457 (by decide +kernel) (by decide +kernel)
abbrev mX7_feed : mM := (yX7_feed, cX7_feed, 2, (some .int))
theorem kc_X7_feed : Cond.code yX7_feed cX7_feed 2 (some .int) ∈ gtbl := wG 466 (by decide +kernel) (by decide +kernel)
theorem ki_X7_feed : Cond.instanceMethod yX7_feed ∈ gtbl := wG 464 (by decide +kernel) (by decide +kernel)
theorem kd_X7_feed : yX7_feed.cls = RX7 ∧ yX7_feed.cls ≠ "java/lang/invoke/MethodHandle" ∧ yX7_feed.cls ≠ "java/lang/invoke/VarHandle" ∧ (parseMethodDescriptor yX7_feed.desc).map (fun d => d.parameters.length) = some 1 := by decide +kernel
theorem ks_X7_feed : Cond.selects RX7 yX7_feed yX7_feed ∈ gtbl := wG 465 (by decide +kernel) (by decide +kernel)
abbrev mX7_day : mM := (yX7_day, cX7_day, 1, (some .int))
theorem kc_X7_day : Cond.code yX7_day cX7_day 1 (some .int) ∈ gtbl := wG 479 (by decide +kernel) (by decide +kernel)
theorem ki_X7_day : Cond.instanceMethod yX7_day ∈ gtbl := wG 477 (by decide +kernel) (by decide +kernel)
theorem kd_X7_day : yX7_day.cls = RX7 ∧ yX7_day.cls ≠ "java/lang/invoke/MethodHandle" ∧ yX7_day.cls ≠ "java/lang/invoke/VarHandle" ∧ (parseMethodDescriptor yX7_day.desc).map (fun d => d.parameters.length) = some 0 := by decide +kernel
theorem ks_X7_day : Cond.selects RX7 yX7_day yX7_day ∈ gtbl := wG 478 (by decide +kernel) (by decide +kernel)
abbrev mX7_fault : mM := (yX7_fault, cX7_fault, 1, (some .int))
theorem kc_X7_fault : Cond.code yX7_fault cX7_fault 1 (some .int) ∈ gtbl := wG 538 (by decide +kernel) (by decide +kernel)
theorem ki_X7_fault : Cond.instanceMethod yX7_fault ∈ gtbl := wG 536 (by decide +kernel) (by decide +kernel)
theorem kd_X7_fault : yX7_fault.cls = RX7 ∧ yX7_fault.cls ≠ "java/lang/invoke/MethodHandle" ∧ yX7_fault.cls ≠ "java/lang/invoke/VarHandle" ∧ (parseMethodDescriptor yX7_fault.desc).map (fun d => d.parameters.length) = some 0 := by decide +kernel
theorem ks_X7_fault : Cond.selects RX7 yX7_fault yX7_fault ∈ gtbl := wG 537 (by decide +kernel) (by decide +kernel)
abbrev mX7_run : mM := (yX7_run, cX7_run, 4, (some .int))
theorem kc_X7_run : Cond.code yX7_run cX7_run 4 (some .int) ∈ gtbl := wG 542 (by decide +kernel) (by decide +kernel)
theorem ki_X7_run : Cond.instanceMethod yX7_run ∈ gtbl := wG 540 (by decide +kernel) (by decide +kernel)
theorem kd_X7_run : yX7_run.cls = RX7 ∧ yX7_run.cls ≠ "java/lang/invoke/MethodHandle" ∧ yX7_run.cls ≠ "java/lang/invoke/VarHandle" ∧ (parseMethodDescriptor yX7_run.desc).map (fun d => d.parameters.length) = some 2 := by decide +kernel
theorem ks_X7_run : Cond.selects RX7 yX7_run yX7_run ∈ gtbl := wG 541 (by decide +kernel) (by decide +kernel)
abbrev mX7_layBest : mM := (yX7_layBest, cX7_layBest, 4, (some .int))
theorem kc_X7_layBest : Cond.code yX7_layBest cX7_layBest 4 (some .int) ∈ gtbl := wG 564 (by decide +kernel) (by decide +kernel)
theorem ki_X7_layBest : Cond.instanceMethod yX7_layBest ∈ gtbl := wG 562 (by decide +kernel) (by decide +kernel)
theorem kd_X7_layBest : yX7_layBest.cls = RX7 ∧ yX7_layBest.cls ≠ "java/lang/invoke/MethodHandle" ∧ yX7_layBest.cls ≠ "java/lang/invoke/VarHandle" ∧ (parseMethodDescriptor yX7_layBest.desc).map (fun d => d.parameters.length) = some 0 := by decide +kernel
theorem ks_X7_layBest : Cond.selects RX7 yX7_layBest yX7_layBest ∈ gtbl := wG 563 (by decide +kernel) (by decide +kernel)
abbrev mX7_demand : mM := (yX7_demand, cX7_demand, 4, (some .int))
theorem kc_X7_demand : Cond.code yX7_demand cX7_demand 4 (some .int) ∈ gtbl := wG 640 (by decide +kernel) (by decide +kernel)
theorem ki_X7_demand : Cond.instanceMethod yX7_demand ∈ gtbl := wG 638 (by decide +kernel) (by decide +kernel)
theorem kd_X7_demand : yX7_demand.cls = RX7 ∧ yX7_demand.cls ≠ "java/lang/invoke/MethodHandle" ∧ yX7_demand.cls ≠ "java/lang/invoke/VarHandle" ∧ (parseMethodDescriptor yX7_demand.desc).map (fun d => d.parameters.length) = some 2 := by decide +kernel
theorem ks_X7_demand : Cond.selects RX7 yX7_demand yX7_demand ∈ gtbl := wG 639 (by decide +kernel) (by decide +kernel)
abbrev mX7_reserve : mM := (yX7_reserve, cX7_reserve, 3, (some .int))
theorem kc_X7_reserve : Cond.code yX7_reserve cX7_reserve 3 (some .int) ∈ gtbl := wG 648 (by decide +kernel) (by decide +kernel)
theorem ki_X7_reserve : Cond.instanceMethod yX7_reserve ∈ gtbl := wG 646 (by decide +kernel) (by decide +kernel)
theorem kd_X7_reserve : yX7_reserve.cls = RX7 ∧ yX7_reserve.cls ≠ "java/lang/invoke/MethodHandle" ∧ yX7_reserve.cls ≠ "java/lang/invoke/VarHandle" ∧ (parseMethodDescriptor yX7_reserve.desc).map (fun d => d.parameters.length) = some 1 := by decide +kernel
theorem ks_X7_reserve : Cond.selects RX7 yX7_reserve yX7_reserve ∈ gtbl := wG 647 (by decide +kernel) (by decide +kernel)
abbrev mX7_price : mM := (yX7_price, cX7_price, 4, (some .int))
theorem kc_X7_price : Cond.code yX7_price cX7_price 4 (some .int) ∈ gtbl := wG 652 (by decide +kernel) (by decide +kernel)
theorem ki_X7_price : Cond.instanceMethod yX7_price ∈ gtbl := wG 650 (by decide +kernel) (by decide +kernel)
theorem kd_X7_price : yX7_price.cls = RX7 ∧ yX7_price.cls ≠ "java/lang/invoke/MethodHandle" ∧ yX7_price.cls ≠ "java/lang/invoke/VarHandle" ∧ (parseMethodDescriptor yX7_price.desc).map (fun d => d.parameters.length) = some 2 := by decide +kernel
theorem ks_X7_price : Cond.selects RX7 yX7_price yX7_price ∈ gtbl := wG 651 (by decide +kernel) (by decide +kernel)
abbrev mX7_become : mM := (yX7_become, cX7_become, 4, (some .int))
theorem kc_X7_become : Cond.code yX7_become cX7_become 4 (some .int) ∈ gtbl := wG 660 (by decide +kernel) (by decide +kernel)
theorem ki_X7_become : Cond.instanceMethod yX7_become ∈ gtbl := wG 658 (by decide +kernel) (by decide +kernel)
theorem kd_X7_become : yX7_become.cls = RX7 ∧ yX7_become.cls ≠ "java/lang/invoke/MethodHandle" ∧ yX7_become.cls ≠ "java/lang/invoke/VarHandle" ∧ (parseMethodDescriptor yX7_become.desc).map (fun d => d.parameters.length) = some 2 := by decide +kernel
theorem ks_X7_become : Cond.selects RX7 yX7_become yX7_become ∈ gtbl := wG 659 (by decide +kernel) (by decide +kernel)
abbrev mX7_undo : mM := (yX7_undo, cX7_undo, 1, (some .int))
theorem kc_X7_undo : Cond.code yX7_undo cX7_undo 1 (some .int) ∈ gtbl := wG 668 (by decide +kernel) (by decide +kernel)
theorem ki_X7_undo : Cond.instanceMethod yX7_undo ∈ gtbl := wG 666 (by decide +kernel) (by decide +kernel)
theorem kd_X7_undo : yX7_undo.cls = RX7 ∧ yX7_undo.cls ≠ "java/lang/invoke/MethodHandle" ∧ yX7_undo.cls ≠ "java/lang/invoke/VarHandle" ∧ (parseMethodDescriptor yX7_undo.desc).map (fun d => d.parameters.length) = some 0 := by decide +kernel
theorem ks_X7_undo : Cond.selects RX7 yX7_undo yX7_undo ∈ gtbl := wG 667 (by decide +kernel) (by decide +kernel)
abbrev mX7_unit : mM := (yX7_unit, cX7_unit, 3, (some .int))
theorem kc_X7_unit : Cond.code yX7_unit cX7_unit 3 (some .int) ∈ gtbl := wG 676 (by decide +kernel) (by decide +kernel)
theorem ki_X7_unit : Cond.instanceMethod yX7_unit ∈ gtbl := wG 674 (by decide +kernel) (by decide +kernel)
theorem kd_X7_unit : yX7_unit.cls = RX7 ∧ yX7_unit.cls ≠ "java/lang/invoke/MethodHandle" ∧ yX7_unit.cls ≠ "java/lang/invoke/VarHandle" ∧ (parseMethodDescriptor yX7_unit.desc).map (fun d => d.parameters.length) = some 2 := by decide +kernel
theorem ks_X7_unit : Cond.selects RX7 yX7_unit yX7_unit ∈ gtbl := wG 675 (by decide +kernel) (by decide +kernel)
abbrev mX7_hour : mM := (yX7_hour, cX7_hour, 5, (some .int))
theorem kc_X7_hour : Cond.code yX7_hour cX7_hour 5 (some .int) ∈ gtbl := wG 688 (by decide +kernel) (by decide +kernel)
theorem ki_X7_hour : Cond.instanceMethod yX7_hour ∈ gtbl := wG 686 (by decide +kernel) (by decide +kernel)
theorem kd_X7_hour : yX7_hour.cls = RX7 ∧ yX7_hour.cls ≠ "java/lang/invoke/MethodHandle" ∧ yX7_hour.cls ≠ "java/lang/invoke/VarHandle" ∧ (parseMethodDescriptor yX7_hour.desc).map (fun d => d.parameters.length) = some 2 := by decide +kernel
theorem ks_X7_hour : Cond.selects RX7 yX7_hour yX7_hour ∈ gtbl := wG 687 (by decide +kernel) (by decide +kernel)
abbrev mX7_gives : mM := (yX7_gives, cX7_gives, 5, (some .int))
theorem kc_X7_gives : Cond.code yX7_gives cX7_gives 5 (some .int) ∈ gtbl := wG 719 (by decide +kernel) (by decide +kernel)
theorem ki_X7_gives : Cond.instanceMethod yX7_gives ∈ gtbl := wG 717 (by decide +kernel) (by decide +kernel)
theorem kd_X7_gives : yX7_gives.cls = RX7 ∧ yX7_gives.cls ≠ "java/lang/invoke/MethodHandle" ∧ yX7_gives.cls ≠ "java/lang/invoke/VarHandle" ∧ (parseMethodDescriptor yX7_gives.desc).map (fun d => d.parameters.length) = some 2 := by decide +kernel
theorem ks_X7_gives : Cond.selects RX7 yX7_gives yX7_gives ∈ gtbl := wG 718 (by decide +kernel) (by decide +kernel)
abbrev mX7_plan : mM := (yX7_plan, cX7_plan, 2, (some .int))
theorem kc_X7_plan : Cond.code yX7_plan cX7_plan 2 (some .int) ∈ gtbl := wG 730 (by decide +kernel) (by decide +kernel)
theorem ki_X7_plan : Cond.instanceMethod yX7_plan ∈ gtbl := wG 728 (by decide +kernel) (by decide +kernel)
theorem kd_X7_plan : yX7_plan.cls = RX7 ∧ yX7_plan.cls ≠ "java/lang/invoke/MethodHandle" ∧ yX7_plan.cls ≠ "java/lang/invoke/VarHandle" ∧ (parseMethodDescriptor yX7_plan.desc).map (fun d => d.parameters.length) = some 1 := by decide +kernel
theorem ks_X7_plan : Cond.selects RX7 yX7_plan yX7_plan ∈ gtbl := wG 729 (by decide +kernel) (by decide +kernel)
abbrev mX7_best : mM := (yX7_best, cX7_best, 4, (some .int))
theorem kc_X7_best : Cond.code yX7_best cX7_best 4 (some .int) ∈ gtbl := wG 762 (by decide +kernel) (by decide +kernel)
theorem ki_X7_best : Cond.instanceMethod yX7_best ∈ gtbl := wG 760 (by decide +kernel) (by decide +kernel)
theorem kd_X7_best : yX7_best.cls = RX7 ∧ yX7_best.cls ≠ "java/lang/invoke/MethodHandle" ∧ yX7_best.cls ≠ "java/lang/invoke/VarHandle" ∧ (parseMethodDescriptor yX7_best.desc).map (fun d => d.parameters.length) = some 1 := by decide +kernel
theorem ks_X7_best : Cond.selects RX7 yX7_best yX7_best ∈ gtbl := wG 761 (by decide +kernel) (by decide +kernel)
abbrev mX7_alone : mM := (yX7_alone, cX7_alone, 5, (some .long))
theorem kc_X7_alone : Cond.code yX7_alone cX7_alone 5 (some .long) ∈ gtbl := wG 767 (by decide +kernel) (by decide +kernel)
theorem ki_X7_alone : Cond.instanceMethod yX7_alone ∈ gtbl := wG 765 (by decide +kernel) (by decide +kernel)
theorem kd_X7_alone : yX7_alone.cls = RX7 ∧ yX7_alone.cls ≠ "java/lang/invoke/MethodHandle" ∧ yX7_alone.cls ≠ "java/lang/invoke/VarHandle" ∧ (parseMethodDescriptor yX7_alone.desc).map (fun d => d.parameters.length) = some 4 := by decide +kernel
theorem ks_X7_alone : Cond.selects RX7 yX7_alone yX7_alone ∈ gtbl := wG 766 (by decide +kernel) (by decide +kernel)
abbrev mX7_bound : mM := (yX7_bound, cX7_bound, 3, (some .long))
theorem kc_X7_bound : Cond.code yX7_bound cX7_bound 3 (some .long) ∈ gtbl := wG 799 (by decide +kernel) (by decide +kernel)
theorem ki_X7_bound : Cond.instanceMethod yX7_bound ∈ gtbl := wG 797 (by decide +kernel) (by decide +kernel)
theorem kd_X7_bound : yX7_bound.cls = RX7 ∧ yX7_bound.cls ≠ "java/lang/invoke/MethodHandle" ∧ yX7_bound.cls ≠ "java/lang/invoke/VarHandle" ∧ (parseMethodDescriptor yX7_bound.desc).map (fun d => d.parameters.length) = some 2 := by decide +kernel
theorem ks_X7_bound : Cond.selects RX7 yX7_bound yX7_bound ∈ gtbl := wG 798 (by decide +kernel) (by decide +kernel)
abbrev mX7_moved : mM := (yX7_moved, cX7_moved, 5, (some .int))
theorem kc_X7_moved : Cond.code yX7_moved cX7_moved 5 (some .int) ∈ gtbl := wG 810 (by decide +kernel) (by decide +kernel)
theorem ki_X7_moved : Cond.instanceMethod yX7_moved ∈ gtbl := wG 808 (by decide +kernel) (by decide +kernel)
theorem kd_X7_moved : yX7_moved.cls = RX7 ∧ yX7_moved.cls ≠ "java/lang/invoke/MethodHandle" ∧ yX7_moved.cls ≠ "java/lang/invoke/VarHandle" ∧ (parseMethodDescriptor yX7_moved.desc).map (fun d => d.parameters.length) = some 2 := by decide +kernel
theorem ks_X7_moved : Cond.selects RX7 yX7_moved yX7_moved ∈ gtbl := wG 809 (by decide +kernel) (by decide +kernel)
abbrev mX7_gap : mM := (yX7_gap, cX7_gap, 4, (some .int))
theorem kc_X7_gap : Cond.code yX7_gap cX7_gap 4 (some .int) ∈ gtbl := wG 825 (by decide +kernel) (by decide +kernel)
theorem ki_X7_gap : Cond.instanceMethod yX7_gap ∈ gtbl := wG 823 (by decide +kernel) (by decide +kernel)
theorem kd_X7_gap : yX7_gap.cls = RX7 ∧ yX7_gap.cls ≠ "java/lang/invoke/MethodHandle" ∧ yX7_gap.cls ≠ "java/lang/invoke/VarHandle" ∧ (parseMethodDescriptor yX7_gap.desc).map (fun d => d.parameters.length) = some 1 := by decide +kernel
theorem ks_X7_gap : Cond.selects RX7 yX7_gap yX7_gap ∈ gtbl := wG 824 (by decide +kernel) (by decide +kernel)
abbrev mX7_more : mM := (yX7_more, cX7_more, 4, (some .int))
theorem kc_X7_more : Cond.code yX7_more cX7_more 4 (some .int) ∈ gtbl := wG 829 (by decide +kernel) (by decide +kernel)
theorem ki_X7_more : Cond.instanceMethod yX7_more ∈ gtbl := wG 827 (by decide +kernel) (by decide +kernel)
theorem kd_X7_more : yX7_more.cls = RX7 ∧ yX7_more.cls ≠ "java/lang/invoke/MethodHandle" ∧ yX7_more.cls ≠ "java/lang/invoke/VarHandle" ∧ (parseMethodDescriptor yX7_more.desc).map (fun d => d.parameters.length) = some 1 := by decide +kernel
theorem ks_X7_more : Cond.selects RX7 yX7_more yX7_more ∈ gtbl := wG 828 (by decide +kernel) (by decide +kernel)
abbrev mX7_wanted : mM := (yX7_wanted, cX7_wanted, 3, (some .int))
theorem kc_X7_wanted : Cond.code yX7_wanted cX7_wanted 3 (some .int) ∈ gtbl := wG 833 (by decide +kernel) (by decide +kernel)
theorem ki_X7_wanted : Cond.instanceMethod yX7_wanted ∈ gtbl := wG 831 (by decide +kernel) (by decide +kernel)
theorem kd_X7_wanted : yX7_wanted.cls = RX7 ∧ yX7_wanted.cls ≠ "java/lang/invoke/MethodHandle" ∧ yX7_wanted.cls ≠ "java/lang/invoke/VarHandle" ∧ (parseMethodDescriptor yX7_wanted.desc).map (fun d => d.parameters.length) = some 0 := by decide +kernel
theorem ks_X7_wanted : Cond.selects RX7 yX7_wanted yX7_wanted ∈ gtbl := wG 832 (by decide +kernel) (by decide +kernel)
abbrev mX7_who : mM := (yX7_who, cX7_who, 4, (some .int))
theorem kc_X7_who : Cond.code yX7_who cX7_who 4 (some .int) ∈ gtbl := wG 837 (by decide +kernel) (by decide +kernel)
theorem ki_X7_who : Cond.instanceMethod yX7_who ∈ gtbl := wG 835 (by decide +kernel) (by decide +kernel)
theorem kd_X7_who : yX7_who.cls = RX7 ∧ yX7_who.cls ≠ "java/lang/invoke/MethodHandle" ∧ yX7_who.cls ≠ "java/lang/invoke/VarHandle" ∧ (parseMethodDescriptor yX7_who.desc).map (fun d => d.parameters.length) = some 3 := by decide +kernel
theorem ks_X7_who : Cond.selects RX7 yX7_who yX7_who ∈ gtbl := wG 836 (by decide +kernel) (by decide +kernel)
abbrev mX7_fits : mM := (yX7_fits, cX7_fits, 4, (some .int))
theorem kc_X7_fits : Cond.code yX7_fits cX7_fits 4 (some .int) ∈ gtbl := wG 879 (by decide +kernel) (by decide +kernel)
theorem ki_X7_fits : Cond.instanceMethod yX7_fits ∈ gtbl := wG 877 (by decide +kernel) (by decide +kernel)
theorem kd_X7_fits : yX7_fits.cls = RX7 ∧ yX7_fits.cls ≠ "java/lang/invoke/MethodHandle" ∧ yX7_fits.cls ≠ "java/lang/invoke/VarHandle" ∧ (parseMethodDescriptor yX7_fits.desc).map (fun d => d.parameters.length) = some 3 := by decide +kernel
theorem ks_X7_fits : Cond.selects RX7 yX7_fits yX7_fits ∈ gtbl := wG 878 (by decide +kernel) (by decide +kernel)
abbrev mX7_drawn : mM := (yX7_drawn, cX7_drawn, 10, (some .int))
theorem kc_X7_drawn : Cond.code yX7_drawn cX7_drawn 10 (some .int) ∈ gtbl := wG 890 (by decide +kernel) (by decide +kernel)
theorem ki_X7_drawn : Cond.instanceMethod yX7_drawn ∈ gtbl := wG 888 (by decide +kernel) (by decide +kernel)
theorem kd_X7_drawn : yX7_drawn.cls = RX7 ∧ yX7_drawn.cls ≠ "java/lang/invoke/MethodHandle" ∧ yX7_drawn.cls ≠ "java/lang/invoke/VarHandle" ∧ (parseMethodDescriptor yX7_drawn.desc).map (fun d => d.parameters.length) = some 3 := by decide +kernel
theorem ks_X7_drawn : Cond.selects RX7 yX7_drawn yX7_drawn ∈ gtbl := wG 889 (by decide +kernel) (by decide +kernel)
abbrev mX7_image : mM := (yX7_image, cX7_image, 2, (some .int))
theorem kc_X7_image : Cond.code yX7_image cX7_image 2 (some .int) ∈ gtbl := wG 899 (by decide +kernel) (by decide +kernel)
theorem ki_X7_image : Cond.instanceMethod yX7_image ∈ gtbl := wG 897 (by decide +kernel) (by decide +kernel)
theorem kd_X7_image : yX7_image.cls = RX7 ∧ yX7_image.cls ≠ "java/lang/invoke/MethodHandle" ∧ yX7_image.cls ≠ "java/lang/invoke/VarHandle" ∧ (parseMethodDescriptor yX7_image.desc).map (fun d => d.parameters.length) = some 1 := by decide +kernel
theorem ks_X7_image : Cond.selects RX7 yX7_image yX7_image ∈ gtbl := wG 898 (by decide +kernel) (by decide +kernel)
abbrev mX7_restore : mM := (yX7_restore, cX7_restore, 2, (some .int))
theorem kc_X7_restore : Cond.code yX7_restore cX7_restore 2 (some .int) ∈ gtbl := wG 903 (by decide +kernel) (by decide +kernel)
theorem ki_X7_restore : Cond.instanceMethod yX7_restore ∈ gtbl := wG 901 (by decide +kernel) (by decide +kernel)
theorem kd_X7_restore : yX7_restore.cls = RX7 ∧ yX7_restore.cls ≠ "java/lang/invoke/MethodHandle" ∧ yX7_restore.cls ≠ "java/lang/invoke/VarHandle" ∧ (parseMethodDescriptor yX7_restore.desc).map (fun d => d.parameters.length) = some 1 := by decide +kernel
theorem ks_X7_restore : Cond.selects RX7 yX7_restore yX7_restore ∈ gtbl := wG 902 (by decide +kernel) (by decide +kernel)
abbrev mX7_kind : mM := (yX7_kind, cX7_kind, 2, (some .int))
theorem kc_X7_kind : Cond.code yX7_kind cX7_kind 2 (some .int) ∈ gtbl := wG 907 (by decide +kernel) (by decide +kernel)
theorem ki_X7_kind : Cond.instanceMethod yX7_kind ∈ gtbl := wG 905 (by decide +kernel) (by decide +kernel)
theorem kd_X7_kind : yX7_kind.cls = RX7 ∧ yX7_kind.cls ≠ "java/lang/invoke/MethodHandle" ∧ yX7_kind.cls ≠ "java/lang/invoke/VarHandle" ∧ (parseMethodDescriptor yX7_kind.desc).map (fun d => d.parameters.length) = some 1 := by decide +kernel
theorem ks_X7_kind : Cond.selects RX7 yX7_kind yX7_kind ∈ gtbl := wG 906 (by decide +kernel) (by decide +kernel)
abbrev mX7_as : mM := (yX7_as, cX7_as, 3, (some .int))
theorem kc_X7_as : Cond.code yX7_as cX7_as 3 (some .int) ∈ gtbl := wG 911 (by decide +kernel) (by decide +kernel)
theorem ki_X7_as : Cond.instanceMethod yX7_as ∈ gtbl := wG 909 (by decide +kernel) (by decide +kernel)
theorem kd_X7_as : yX7_as.cls = RX7 ∧ yX7_as.cls ≠ "java/lang/invoke/MethodHandle" ∧ yX7_as.cls ≠ "java/lang/invoke/VarHandle" ∧ (parseMethodDescriptor yX7_as.desc).map (fun d => d.parameters.length) = some 2 := by decide +kernel
theorem ks_X7_as : Cond.selects RX7 yX7_as yX7_as ∈ gtbl := wG 910 (by decide +kernel) (by decide +kernel)
abbrev mX7_ask : mM := (yX7_ask, cX7_ask, 3, (some .int))
theorem kc_X7_ask : Cond.code yX7_ask cX7_ask 3 (some .int) ∈ gtbl := wG 917 (by decide +kernel) (by decide +kernel)
theorem ki_X7_ask : Cond.instanceMethod yX7_ask ∈ gtbl := wG 915 (by decide +kernel) (by decide +kernel)
theorem kd_X7_ask : yX7_ask.cls = RX7 ∧ yX7_ask.cls ≠ "java/lang/invoke/MethodHandle" ∧ yX7_ask.cls ≠ "java/lang/invoke/VarHandle" ∧ (parseMethodDescriptor yX7_ask.desc).map (fun d => d.parameters.length) = some 2 := by decide +kernel
theorem ks_X7_ask : Cond.selects RX7 yX7_ask yX7_ask ∈ gtbl := wG 916 (by decide +kernel) (by decide +kernel)
abbrev mX7_trace : mM := (yX7_trace, cX7_trace, 2, (some .int))
theorem kc_X7_trace : Cond.code yX7_trace cX7_trace 2 (some .int) ∈ gtbl := wG 970 (by decide +kernel) (by decide +kernel)
theorem ki_X7_trace : Cond.instanceMethod yX7_trace ∈ gtbl := wG 968 (by decide +kernel) (by decide +kernel)
theorem kd_X7_trace : yX7_trace.cls = RX7 ∧ yX7_trace.cls ≠ "java/lang/invoke/MethodHandle" ∧ yX7_trace.cls ≠ "java/lang/invoke/VarHandle" ∧ (parseMethodDescriptor yX7_trace.desc).map (fun d => d.parameters.length) = some 1 := by decide +kernel
theorem ks_X7_trace : Cond.selects RX7 yX7_trace yX7_trace ∈ gtbl := wG 969 (by decide +kernel) (by decide +kernel)
abbrev mX7_count : mM := (yX7_count, cX7_count, 2, (some .int))
theorem kc_X7_count : Cond.code yX7_count cX7_count 2 (some .int) ∈ gtbl := wG 974 (by decide +kernel) (by decide +kernel)
theorem ki_X7_count : Cond.instanceMethod yX7_count ∈ gtbl := wG 972 (by decide +kernel) (by decide +kernel)
theorem kd_X7_count : yX7_count.cls = RX7 ∧ yX7_count.cls ≠ "java/lang/invoke/MethodHandle" ∧ yX7_count.cls ≠ "java/lang/invoke/VarHandle" ∧ (parseMethodDescriptor yX7_count.desc).map (fun d => d.parameters.length) = some 1 := by decide +kernel
theorem ks_X7_count : Cond.selects RX7 yX7_count yX7_count ∈ gtbl := wG 973 (by decide +kernel) (by decide +kernel)
abbrev mX7_status : mM := (yX7_status, cX7_status, 1, (some .int))
theorem kc_X7_status : Cond.code yX7_status cX7_status 1 (some .int) ∈ gtbl := wG 987 (by decide +kernel) (by decide +kernel)
theorem ki_X7_status : Cond.instanceMethod yX7_status ∈ gtbl := wG 985 (by decide +kernel) (by decide +kernel)
theorem kd_X7_status : yX7_status.cls = RX7 ∧ yX7_status.cls ≠ "java/lang/invoke/MethodHandle" ∧ yX7_status.cls ≠ "java/lang/invoke/VarHandle" ∧ (parseMethodDescriptor yX7_status.desc).map (fun d => d.parameters.length) = some 0 := by decide +kernel
theorem ks_X7_status : Cond.selects RX7 yX7_status yX7_status ∈ gtbl := wG 986 (by decide +kernel) (by decide +kernel)
abbrev mX7_found : mM := (yX7_found, cX7_found, 2, (some .int))
theorem kc_X7_found : Cond.code yX7_found cX7_found 2 (some .int) ∈ gtbl := wG 422 (by decide +kernel) (by decide +kernel)
theorem ki_X7_found : Cond.instanceMethod yX7_found ∈ gtbl := wG 421 (by decide +kernel) (by decide +kernel)
theorem kd_X7_found : yX7_found.cls = RX7 ∧ yX7_found.cls ≠ "java/lang/invoke/MethodHandle" ∧ yX7_found.cls ≠ "java/lang/invoke/VarHandle" ∧ (parseMethodDescriptor yX7_found.desc).map (fun d => d.parameters.length) = some 1 := by decide +kernel
theorem ks_X7_found : Cond.selects RX7 yX7_found yX7_found ∈ gtbl := wG 1 (by decide +kernel) (by decide +kernel)
abbrev mX7_well : mM := (yX7_well, cX7_well, 2, (some .int))
theorem kc_X7_well : Cond.code yX7_well cX7_well 2 (some .int) ∈ gtbl := wG 431 (by decide +kernel) (by decide +kernel)
theorem ki_X7_well : Cond.instanceMethod yX7_well ∈ gtbl := wG 430 (by decide +kernel) (by decide +kernel)
theorem kd_X7_well : yX7_well.cls = RX7 ∧ yX7_well.cls ≠ "java/lang/invoke/MethodHandle" ∧ yX7_well.cls ≠ "java/lang/invoke/VarHandle" ∧ (parseMethodDescriptor yX7_well.desc).map (fun d => d.parameters.length) = some 1 := by decide +kernel
theorem ks_X7_well : Cond.selects RX7 yX7_well yX7_well ∈ gtbl := wG 2 (by decide +kernel) (by decide +kernel)
abbrev mX7_noRow : mM := (yX7_noRow, cX7_noRow, 2, (some .boolean))
theorem kc_X7_noRow : Cond.code yX7_noRow cX7_noRow 2 (some .boolean) ∈ gtbl := wG 417 (by decide +kernel) (by decide +kernel)
theorem ki_X7_noRow : Cond.instanceMethod yX7_noRow ∈ gtbl := wG 416 (by decide +kernel) (by decide +kernel)
theorem kd_X7_noRow : yX7_noRow.cls = RX7 ∧ yX7_noRow.cls ≠ "java/lang/invoke/MethodHandle" ∧ yX7_noRow.cls ≠ "java/lang/invoke/VarHandle" ∧ (parseMethodDescriptor yX7_noRow.desc).map (fun d => d.parameters.length) = some 1 := by decide +kernel
theorem ks_X7_noRow : Cond.selects RX7 yX7_noRow yX7_noRow ∈ gtbl := wG 0 (by decide +kernel) (by decide +kernel)
abbrev mX7_noDay : mM := (yX7_noDay, cX7_noDay, 1, (some .boolean))
theorem kc_X7_noDay : Cond.code yX7_noDay cX7_noDay 1 (some .boolean) ∈ gtbl := wG 568 (by decide +kernel) (by decide +kernel)
theorem ki_X7_noDay : Cond.instanceMethod yX7_noDay ∈ gtbl := wG 567 (by decide +kernel) (by decide +kernel)
theorem kd_X7_noDay : yX7_noDay.cls = RX7 ∧ yX7_noDay.cls ≠ "java/lang/invoke/MethodHandle" ∧ yX7_noDay.cls ≠ "java/lang/invoke/VarHandle" ∧ (parseMethodDescriptor yX7_noDay.desc).map (fun d => d.parameters.length) = some 0 := by decide +kernel
theorem ks_X7_noDay : Cond.selects RX7 yX7_noDay yX7_noDay ∈ gtbl := wG 15 (by decide +kernel) (by decide +kernel)
abbrev mX7_noHour : mM := (yX7_noHour, cX7_noHour, 2, (some .boolean))
theorem kc_X7_noHour : Cond.code yX7_noHour cX7_noHour 2 (some .boolean) ∈ gtbl := wG 644 (by decide +kernel) (by decide +kernel)
theorem ki_X7_noHour : Cond.instanceMethod yX7_noHour ∈ gtbl := wG 643 (by decide +kernel) (by decide +kernel)
theorem kd_X7_noHour : yX7_noHour.cls = RX7 ∧ yX7_noHour.cls ≠ "java/lang/invoke/MethodHandle" ∧ yX7_noHour.cls ≠ "java/lang/invoke/VarHandle" ∧ (parseMethodDescriptor yX7_noHour.desc).map (fun d => d.parameters.length) = some 1 := by decide +kernel
theorem ks_X7_noHour : Cond.selects RX7 yX7_noHour yX7_noHour ∈ gtbl := wG 26 (by decide +kernel) (by decide +kernel)
abbrev mX7_noUnit : mM := (yX7_noUnit, cX7_noUnit, 2, (some .boolean))
theorem kc_X7_noUnit : Cond.code yX7_noUnit cX7_noUnit 2 (some .boolean) ∈ gtbl := wG 546 (by decide +kernel) (by decide +kernel)
theorem ki_X7_noUnit : Cond.instanceMethod yX7_noUnit ∈ gtbl := wG 545 (by decide +kernel) (by decide +kernel)
theorem kd_X7_noUnit : yX7_noUnit.cls = RX7 ∧ yX7_noUnit.cls ≠ "java/lang/invoke/MethodHandle" ∧ yX7_noUnit.cls ≠ "java/lang/invoke/VarHandle" ∧ (parseMethodDescriptor yX7_noUnit.desc).map (fun d => d.parameters.length) = some 1 := by decide +kernel
theorem ks_X7_noUnit : Cond.selects RX7 yX7_noUnit yX7_noUnit ∈ gtbl := wG 13 (by decide +kernel) (by decide +kernel)
abbrev mX7_keepForUndo : mM := (yX7_keepForUndo, cX7_keepForUndo, 1, none)
theorem kc_X7_keepForUndo : Cond.code yX7_keepForUndo cX7_keepForUndo 1 none ∈ gtbl := wG 555 (by decide +kernel) (by decide +kernel)
theorem ki_X7_keepForUndo : Cond.instanceMethod yX7_keepForUndo ∈ gtbl := wG 554 (by decide +kernel) (by decide +kernel)
theorem kd_X7_keepForUndo : yX7_keepForUndo.cls = RX7 ∧ yX7_keepForUndo.cls ≠ "java/lang/invoke/MethodHandle" ∧ yX7_keepForUndo.cls ≠ "java/lang/invoke/VarHandle" ∧ (parseMethodDescriptor yX7_keepForUndo.desc).map (fun d => d.parameters.length) = some 0 := by decide +kernel
theorem ks_X7_keepForUndo : Cond.selects RX7 yX7_keepForUndo yX7_keepForUndo ∈ gtbl := wG 14 (by decide +kernel) (by decide +kernel)
abbrev mX7_bestNow : mM := (yX7_bestNow, cX7_bestNow, 1, (some .long))
theorem kc_X7_bestNow : Cond.code yX7_bestNow cX7_bestNow 1 (some .long) ∈ gtbl := wG 572 (by decide +kernel) (by decide +kernel)
theorem ki_X7_bestNow : Cond.instanceMethod yX7_bestNow ∈ gtbl := wG 571 (by decide +kernel) (by decide +kernel)
theorem kd_X7_bestNow : yX7_bestNow.cls = RX7 ∧ yX7_bestNow.cls ≠ "java/lang/invoke/MethodHandle" ∧ yX7_bestNow.cls ≠ "java/lang/invoke/VarHandle" ∧ (parseMethodDescriptor yX7_bestNow.desc).map (fun d => d.parameters.length) = some 0 := by decide +kernel
theorem ks_X7_bestNow : Cond.selects RX7 yX7_bestNow yX7_bestNow ∈ gtbl := wG 16 (by decide +kernel) (by decide +kernel)
abbrev mX7_countDemands : mM := (yX7_countDemands, cX7_countDemands, 5, (some .int))
theorem kc_X7_countDemands : Cond.code yX7_countDemands cX7_countDemands 5 (some .int) ∈ gtbl := wG 842 (by decide +kernel) (by decide +kernel)
theorem ki_X7_countDemands : Cond.instanceMethod yX7_countDemands ∈ gtbl := wG 841 (by decide +kernel) (by decide +kernel)
theorem kd_X7_countDemands : yX7_countDemands.cls = RX7 ∧ yX7_countDemands.cls ≠ "java/lang/invoke/MethodHandle" ∧ yX7_countDemands.cls ≠ "java/lang/invoke/VarHandle" ∧ (parseMethodDescriptor yX7_countDemands.desc).map (fun d => d.parameters.length) = some 2 := by decide +kernel
theorem ks_X7_countDemands : Cond.selects RX7 yX7_countDemands yX7_countDemands ∈ gtbl := wG 31 (by decide +kernel) (by decide +kernel)
abbrev mX7_leastDemand : mM := (yX7_leastDemand, cX7_leastDemand, 4, (some .int))
theorem kc_X7_leastDemand : Cond.code yX7_leastDemand cX7_leastDemand 4 (some .int) ∈ gtbl := wG 867 (by decide +kernel) (by decide +kernel)
theorem ki_X7_leastDemand : Cond.instanceMethod yX7_leastDemand ∈ gtbl := wG 866 (by decide +kernel) (by decide +kernel)
theorem kd_X7_leastDemand : yX7_leastDemand.cls = RX7 ∧ yX7_leastDemand.cls ≠ "java/lang/invoke/MethodHandle" ∧ yX7_leastDemand.cls ≠ "java/lang/invoke/VarHandle" ∧ (parseMethodDescriptor yX7_leastDemand.desc).map (fun d => d.parameters.length) = some 2 := by decide +kernel
theorem ks_X7_leastDemand : Cond.selects RX7 yX7_leastDemand yX7_leastDemand ∈ gtbl := wG 34 (by decide +kernel) (by decide +kernel)
abbrev mX7_kindsThatCost : mM := (yX7_kindsThatCost, cX7_kindsThatCost, 5, (some .int))
theorem kc_X7_kindsThatCost : Cond.code yX7_kindsThatCost cX7_kindsThatCost 5 (some .int) ∈ gtbl := wG 871 (by decide +kernel) (by decide +kernel)
theorem ki_X7_kindsThatCost : Cond.instanceMethod yX7_kindsThatCost ∈ gtbl := wG 870 (by decide +kernel) (by decide +kernel)
theorem kd_X7_kindsThatCost : yX7_kindsThatCost.cls = RX7 ∧ yX7_kindsThatCost.cls ≠ "java/lang/invoke/MethodHandle" ∧ yX7_kindsThatCost.cls ≠ "java/lang/invoke/VarHandle" ∧ (parseMethodDescriptor yX7_kindsThatCost.desc).map (fun d => d.parameters.length) = some 2 := by decide +kernel
theorem ks_X7_kindsThatCost : Cond.selects RX7 yX7_kindsThatCost yX7_kindsThatCost ∈ gtbl := wG 35 (by decide +kernel) (by decide +kernel)
abbrev mX7_pricesThatCost : mM := (yX7_pricesThatCost, cX7_pricesThatCost, 5, (some .int))
theorem kc_X7_pricesThatCost : Cond.code yX7_pricesThatCost cX7_pricesThatCost 5 (some .int) ∈ gtbl := wG 875 (by decide +kernel) (by decide +kernel)
theorem ki_X7_pricesThatCost : Cond.instanceMethod yX7_pricesThatCost ∈ gtbl := wG 874 (by decide +kernel) (by decide +kernel)
theorem kd_X7_pricesThatCost : yX7_pricesThatCost.cls = RX7 ∧ yX7_pricesThatCost.cls ≠ "java/lang/invoke/MethodHandle" ∧ yX7_pricesThatCost.cls ≠ "java/lang/invoke/VarHandle" ∧ (parseMethodDescriptor yX7_pricesThatCost.desc).map (fun d => d.parameters.length) = some 2 := by decide +kernel
theorem ks_X7_pricesThatCost : Cond.selects RX7 yX7_pricesThatCost yX7_pricesThatCost ∈ gtbl := wG 36 (by decide +kernel) (by decide +kernel)
abbrev mX7_kindsThatFit : mM := (yX7_kindsThatFit, cX7_kindsThatFit, 8, (some .int))
theorem kc_X7_kindsThatFit : Cond.code yX7_kindsThatFit cX7_kindsThatFit 8 (some .int) ∈ gtbl := wG 883 (by decide +kernel) (by decide +kernel)
theorem ki_X7_kindsThatFit : Cond.instanceMethod yX7_kindsThatFit ∈ gtbl := wG 882 (by decide +kernel) (by decide +kernel)
theorem kd_X7_kindsThatFit : yX7_kindsThatFit.cls = RX7 ∧ yX7_kindsThatFit.cls ≠ "java/lang/invoke/MethodHandle" ∧ yX7_kindsThatFit.cls ≠ "java/lang/invoke/VarHandle" ∧ (parseMethodDescriptor yX7_kindsThatFit.desc).map (fun d => d.parameters.length) = some 3 := by decide +kernel
theorem ks_X7_kindsThatFit : Cond.selects RX7 yX7_kindsThatFit yX7_kindsThatFit ∈ gtbl := wG 37 (by decide +kernel) (by decide +kernel)
abbrev mX7_isAsTold : mM := (yX7_isAsTold, cX7_isAsTold, 5, (some .boolean))
theorem kc_X7_isAsTold : Cond.code yX7_isAsTold cX7_isAsTold 5 (some .boolean) ∈ gtbl := wG 886 (by decide +kernel) (by decide +kernel)
theorem kt_X7_isAsTold : Cond.static yX7_isAsTold ∈ gtbl := wG 885 (by decide +kernel) (by decide +kernel)
theorem kd_X7_isAsTold : yX7_isAsTold.cls = RX7 ∧ yX7_isAsTold.cls ≠ "java/lang/invoke/MethodHandle" ∧ yX7_isAsTold.cls ≠ "java/lang/invoke/VarHandle" ∧ (parseMethodDescriptor yX7_isAsTold.desc).map (fun d => d.parameters.length) = some 3 := by decide +kernel
abbrev mX7_startsAmong : mM := (yX7_startsAmong, cX7_startsAmong, 1, (some .int))
theorem kc_X7_startsAmong : Cond.code yX7_startsAmong cX7_startsAmong 1 (some .int) ∈ gtbl := wG 679 (by decide +kernel) (by decide +kernel)
theorem kt_X7_startsAmong : Cond.static yX7_startsAmong ∈ gtbl := wG 678 (by decide +kernel) (by decide +kernel)
theorem kd_X7_startsAmong : yX7_startsAmong.cls = RX7 ∧ yX7_startsAmong.cls ≠ "java/lang/invoke/MethodHandle" ∧ yX7_startsAmong.cls ≠ "java/lang/invoke/VarHandle" ∧ (parseMethodDescriptor yX7_startsAmong.desc).map (fun d => d.parameters.length) = some 1 := by decide +kernel
abbrev mX8_init : mM := (yX8_init, cX8_init, 2, none)
theorem kc_X8_init : Cond.code yX8_init cX8_init 2 none ∈ gtbl := wG 992 (by decide +kernel) (by decide +kernel)
theorem ki_X8_init : Cond.instanceMethod yX8_init ∈ gtbl := wG 991 (by decide +kernel) (by decide +kernel)
theorem kd_X8_init : yX8_init.cls = RX8 ∧ yX8_init.cls ≠ "java/lang/invoke/MethodHandle" ∧ yX8_init.cls ≠ "java/lang/invoke/VarHandle" ∧ (parseMethodDescriptor yX8_init.desc).map (fun d => d.parameters.length) = some 0 := by decide +kernel
abbrev mX8_in : mM := (yX8_in, cX8_in, 3, (some .boolean))
theorem kc_X8_in : Cond.code yX8_in cX8_in 3 (some .boolean) ∈ gtbl := wG 1099 (by decide +kernel) (by decide +kernel)
theorem kt_X8_in : Cond.static yX8_in ∈ gtbl := wG 1098 (by decide +kernel) (by decide +kernel)
theorem kd_X8_in : yX8_in.cls = RX8 ∧ yX8_in.cls ≠ "java/lang/invoke/MethodHandle" ∧ yX8_in.cls ≠ "java/lang/invoke/VarHandle" ∧ (parseMethodDescriptor yX8_in.desc).map (fun d => d.parameters.length) = some 3 := by decide +kernel
abbrev mX8_has : mM := (yX8_has, cX8_has, 2, (some .boolean))
theorem kc_X8_has : Cond.code yX8_has cX8_has 2 (some .boolean) ∈ gtbl := wG 1230 (by decide +kernel) (by decide +kernel)
theorem kt_X8_has : Cond.static yX8_has ∈ gtbl := wG 1229 (by decide +kernel) (by decide +kernel)
theorem kd_X8_has : yX8_has.cls = RX8 ∧ yX8_has.cls ≠ "java/lang/invoke/MethodHandle" ∧ yX8_has.cls ≠ "java/lang/invoke/VarHandle" ∧ (parseMethodDescriptor yX8_has.desc).map (fun d => d.parameters.length) = some 2 := by decide +kernel
abbrev mX8_ones : mM := (yX8_ones, cX8_ones, 3, (some .int))
theorem kc_X8_ones : Cond.code yX8_ones cX8_ones 3 (some .int) ∈ gtbl := wG 1326 (by decide +kernel) (by decide +kernel)
theorem kt_X8_ones : Cond.static yX8_ones ∈ gtbl := wG 1325 (by decide +kernel) (by decide +kernel)
theorem kd_X8_ones : yX8_ones.cls = RX8 ∧ yX8_ones.cls ≠ "java/lang/invoke/MethodHandle" ∧ yX8_ones.cls ≠ "java/lang/invoke/VarHandle" ∧ (parseMethodDescriptor yX8_ones.desc).map (fun d => d.parameters.length) = some 1 := by decide +kernel
abbrev mX8_found : mM := (yX8_found, cX8_found, 2, (some .int))
theorem kc_X8_found : Cond.code yX8_found cX8_found 2 (some .int) ∈ gtbl := wG 1104 (by decide +kernel) (by decide +kernel)
theorem ki_X8_found : Cond.instanceMethod yX8_found ∈ gtbl := wG 1103 (by decide +kernel) (by decide +kernel)
theorem kd_X8_found : yX8_found.cls = RX8 ∧ yX8_found.cls ≠ "java/lang/invoke/MethodHandle" ∧ yX8_found.cls ≠ "java/lang/invoke/VarHandle" ∧ (parseMethodDescriptor yX8_found.desc).map (fun d => d.parameters.length) = some 1 := by decide +kernel
theorem ks_X8_found : Cond.selects RX8 yX8_found yX8_found ∈ gtbl := wG 47 (by decide +kernel) (by decide +kernel)
abbrev mX8_well : mM := (yX8_well, cX8_well, 2, (some .int))
theorem kc_X8_well : Cond.code yX8_well cX8_well 2 (some .int) ∈ gtbl := wG 1109 (by decide +kernel) (by decide +kernel)
theorem ki_X8_well : Cond.instanceMethod yX8_well ∈ gtbl := wG 1108 (by decide +kernel) (by decide +kernel)
theorem kd_X8_well : yX8_well.cls = RX8 ∧ yX8_well.cls ≠ "java/lang/invoke/MethodHandle" ∧ yX8_well.cls ≠ "java/lang/invoke/VarHandle" ∧ (parseMethodDescriptor yX8_well.desc).map (fun d => d.parameters.length) = some 1 := by decide +kernel
theorem ks_X8_well : Cond.selects RX8 yX8_well yX8_well ∈ gtbl := wG 48 (by decide +kernel) (by decide +kernel)
abbrev mX8_copies : mM := (yX8_copies, cX8_copies, 5, none)
theorem kc_X8_copies : Cond.code yX8_copies cX8_copies 5 none ∈ gtbl := wG 1184 (by decide +kernel) (by decide +kernel)
theorem kt_X8_copies : Cond.static yX8_copies ∈ gtbl := wG 1183 (by decide +kernel) (by decide +kernel)
theorem kd_X8_copies : yX8_copies.cls = RX8 ∧ yX8_copies.cls ≠ "java/lang/invoke/MethodHandle" ∧ yX8_copies.cls ≠ "java/lang/invoke/VarHandle" ∧ (parseMethodDescriptor yX8_copies.desc).map (fun d => d.parameters.length) = some 4 := by decide +kernel
abbrev mX8_isRow : mM := (yX8_isRow, cX8_isRow, 1, (some .boolean))
theorem kc_X8_isRow : Cond.code yX8_isRow cX8_isRow 1 (some .boolean) ∈ gtbl := wG 1096 (by decide +kernel) (by decide +kernel)
theorem kt_X8_isRow : Cond.static yX8_isRow ∈ gtbl := wG 1095 (by decide +kernel) (by decide +kernel)
theorem kd_X8_isRow : yX8_isRow.cls = RX8 ∧ yX8_isRow.cls ≠ "java/lang/invoke/MethodHandle" ∧ yX8_isRow.cls ≠ "java/lang/invoke/VarHandle" ∧ (parseMethodDescriptor yX8_isRow.desc).map (fun d => d.parameters.length) = some 1 := by decide +kernel
abbrev mX8_isMissing : mM := (yX8_isMissing, cX8_isMissing, 2, (some .boolean))
theorem kc_X8_isMissing : Cond.code yX8_isMissing cX8_isMissing 2 (some .boolean) ∈ gtbl := wG 1117 (by decide +kernel) (by decide +kernel)
theorem ki_X8_isMissing : Cond.instanceMethod yX8_isMissing ∈ gtbl := wG 1116 (by decide +kernel) (by decide +kernel)
theorem kd_X8_isMissing : yX8_isMissing.cls = RX8 ∧ yX8_isMissing.cls ≠ "java/lang/invoke/MethodHandle" ∧ yX8_isMissing.cls ≠ "java/lang/invoke/VarHandle" ∧ (parseMethodDescriptor yX8_isMissing.desc).map (fun d => d.parameters.length) = some 1 := by decide +kernel
theorem ks_X8_isMissing : Cond.selects RX8 yX8_isMissing yX8_isMissing ∈ gtbl := wG 49 (by decide +kernel) (by decide +kernel)
abbrev mX8_lowest : mM := (yX8_lowest, cX8_lowest, 2, (some .int))
theorem kc_X8_lowest : Cond.code yX8_lowest cX8_lowest 2 (some .int) ∈ gtbl := wG 1120 (by decide +kernel) (by decide +kernel)
theorem kt_X8_lowest : Cond.static yX8_lowest ∈ gtbl := wG 1119 (by decide +kernel) (by decide +kernel)
theorem kd_X8_lowest : yX8_lowest.cls = RX8 ∧ yX8_lowest.cls ≠ "java/lang/invoke/MethodHandle" ∧ yX8_lowest.cls ≠ "java/lang/invoke/VarHandle" ∧ (parseMethodDescriptor yX8_lowest.desc).map (fun d => d.parameters.length) = some 2 := by decide +kernel
abbrev mX8_row : mM := (yX8_row, cX8_row, 5, (some .int))
theorem kc_X8_row : Cond.code yX8_row cX8_row 5 (some .int) ∈ gtbl := wG 1093 (by decide +kernel) (by decide +kernel)
theorem ki_X8_row : Cond.instanceMethod yX8_row ∈ gtbl := wG 1091 (by decide +kernel) (by decide +kernel)
theorem kd_X8_row : yX8_row.cls = RX8 ∧ yX8_row.cls ≠ "java/lang/invoke/MethodHandle" ∧ yX8_row.cls ≠ "java/lang/invoke/VarHandle" ∧ (parseMethodDescriptor yX8_row.desc).map (fun d => d.parameters.length) = some 3 := by decide +kernel
theorem ks_X8_row : Cond.selects RX8 yX8_row yX8_row ∈ gtbl := wG 1092 (by decide +kernel) (by decide +kernel)
abbrev mX8_set : mM := (yX8_set, cX8_set, 4, (some .int))
theorem kc_X8_set : Cond.code yX8_set cX8_set 4 (some .int) ∈ gtbl := wG 1113 (by decide +kernel) (by decide +kernel)
theorem ki_X8_set : Cond.instanceMethod yX8_set ∈ gtbl := wG 1111 (by decide +kernel) (by decide +kernel)
theorem kd_X8_set : yX8_set.cls = RX8 ∧ yX8_set.cls ≠ "java/lang/invoke/MethodHandle" ∧ yX8_set.cls ≠ "java/lang/invoke/VarHandle" ∧ (parseMethodDescriptor yX8_set.desc).map (fun d => d.parameters.length) = some 3 := by decide +kernel
theorem ks_X8_set : Cond.selects RX8 yX8_set yX8_set ∈ gtbl := wG 1112 (by decide +kernel) (by decide +kernel)
abbrev mX8_isPart : mM := (yX8_isPart, cX8_isPart, 4, (some .boolean))
theorem kc_X8_isPart : Cond.code yX8_isPart cX8_isPart 4 (some .boolean) ∈ gtbl := wG 1128 (by decide +kernel) (by decide +kernel)
theorem ki_X8_isPart : Cond.instanceMethod yX8_isPart ∈ gtbl := wG 1127 (by decide +kernel) (by decide +kernel)
theorem kd_X8_isPart : yX8_isPart.cls = RX8 ∧ yX8_isPart.cls ≠ "java/lang/invoke/MethodHandle" ∧ yX8_isPart.cls ≠ "java/lang/invoke/VarHandle" ∧ (parseMethodDescriptor yX8_isPart.desc).map (fun d => d.parameters.length) = some 3 := by decide +kernel
theorem ks_X8_isPart : Cond.selects RX8 yX8_isPart yX8_isPart ∈ gtbl := wG 50 (by decide +kernel) (by decide +kernel)
abbrev mX8_copy : mM := (yX8_copy, cX8_copy, 7, (some .int))
theorem kc_X8_copy : Cond.code yX8_copy cX8_copy 7 (some .int) ∈ gtbl := wG 1124 (by decide +kernel) (by decide +kernel)
theorem ki_X8_copy : Cond.instanceMethod yX8_copy ∈ gtbl := wG 1122 (by decide +kernel) (by decide +kernel)
theorem kd_X8_copy : yX8_copy.cls = RX8 ∧ yX8_copy.cls ≠ "java/lang/invoke/MethodHandle" ∧ yX8_copy.cls ≠ "java/lang/invoke/VarHandle" ∧ (parseMethodDescriptor yX8_copy.desc).map (fun d => d.parameters.length) = some 5 := by decide +kernel
theorem ks_X8_copy : Cond.selects RX8 yX8_copy yX8_copy ∈ gtbl := wG 1123 (by decide +kernel) (by decide +kernel)
abbrev mX8_drop : mM := (yX8_drop, cX8_drop, 2, (some .int))
theorem kc_X8_drop : Cond.code yX8_drop cX8_drop 2 (some .int) ∈ gtbl := wG 1132 (by decide +kernel) (by decide +kernel)
theorem ki_X8_drop : Cond.instanceMethod yX8_drop ∈ gtbl := wG 1130 (by decide +kernel) (by decide +kernel)
theorem kd_X8_drop : yX8_drop.cls = RX8 ∧ yX8_drop.cls ≠ "java/lang/invoke/MethodHandle" ∧ yX8_drop.cls ≠ "java/lang/invoke/VarHandle" ∧ (parseMethodDescriptor yX8_drop.desc).map (fun d => d.parameters.length) = some 1 := by decide +kernel
theorem ks_X8_drop : Cond.selects RX8 yX8_drop yX8_drop ∈ gtbl := wG 1131 (by decide +kernel) (by decide +kernel)
abbrev mX8_feed : mM := (yX8_feed, cX8_feed, 2, (some .int))
theorem kc_X8_feed : Cond.code yX8_feed cX8_feed 2 (some .int) ∈ gtbl := wG 1136 (by decide +kernel) (by decide +kernel)
theorem ki_X8_feed : Cond.instanceMethod yX8_feed ∈ gtbl := wG 1134 (by decide +kernel) (by decide +kernel)
theorem kd_X8_feed : yX8_feed.cls = RX8 ∧ yX8_feed.cls ≠ "java/lang/invoke/MethodHandle" ∧ yX8_feed.cls ≠ "java/lang/invoke/VarHandle" ∧ (parseMethodDescriptor yX8_feed.desc).map (fun d => d.parameters.length) = some 1 := by decide +kernel
theorem ks_X8_feed : Cond.selects RX8 yX8_feed yX8_feed ∈ gtbl := wG 1135 (by decide +kernel) (by decide +kernel)
abbrev mX8_byteAt : mM := (yX8_byteAt, cX8_byteAt, 2, (some .int))
theorem kc_X8_byteAt : Cond.code yX8_byteAt cX8_byteAt 2 (some .int) ∈ gtbl := wG 1149 (by decide +kernel) (by decide +kernel)
theorem ki_X8_byteAt : Cond.instanceMethod yX8_byteAt ∈ gtbl := wG 1148 (by decide +kernel) (by decide +kernel)
theorem kd_X8_byteAt : yX8_byteAt.cls = RX8 ∧ yX8_byteAt.cls ≠ "java/lang/invoke/MethodHandle" ∧ yX8_byteAt.cls ≠ "java/lang/invoke/VarHandle" ∧ (parseMethodDescriptor yX8_byteAt.desc).map (fun d => d.parameters.length) = some 1 := by decide +kernel
theorem ks_X8_byteAt : Cond.selects RX8 yX8_byteAt yX8_byteAt ∈ gtbl := wG 52 (by decide +kernel) (by decide +kernel)
abbrev mX8_advances : mM := (yX8_advances, cX8_advances, 2, none)
theorem kc_X8_advances : Cond.code yX8_advances cX8_advances 2 none ∈ gtbl := wG 1145 (by decide +kernel) (by decide +kernel)
theorem ki_X8_advances : Cond.instanceMethod yX8_advances ∈ gtbl := wG 1144 (by decide +kernel) (by decide +kernel)
theorem kd_X8_advances : yX8_advances.cls = RX8 ∧ yX8_advances.cls ≠ "java/lang/invoke/MethodHandle" ∧ yX8_advances.cls ≠ "java/lang/invoke/VarHandle" ∧ (parseMethodDescriptor yX8_advances.desc).map (fun d => d.parameters.length) = some 0 := by decide +kernel
theorem ks_X8_advances : Cond.selects RX8 yX8_advances yX8_advances ∈ gtbl := wG 51 (by decide +kernel) (by decide +kernel)
abbrev mX8_isWell : mM := (yX8_isWell, cX8_isWell, 1, (some .boolean))
theorem kc_X8_isWell : Cond.code yX8_isWell cX8_isWell 1 (some .boolean) ∈ gtbl := wG 1157 (by decide +kernel) (by decide +kernel)
theorem ki_X8_isWell : Cond.instanceMethod yX8_isWell ∈ gtbl := wG 1156 (by decide +kernel) (by decide +kernel)
theorem kd_X8_isWell : yX8_isWell.cls = RX8 ∧ yX8_isWell.cls ≠ "java/lang/invoke/MethodHandle" ∧ yX8_isWell.cls ≠ "java/lang/invoke/VarHandle" ∧ (parseMethodDescriptor yX8_isWell.desc).map (fun d => d.parameters.length) = some 0 := by decide +kernel
theorem ks_X8_isWell : Cond.selects RX8 yX8_isWell yX8_isWell ∈ gtbl := wG 54 (by decide +kernel) (by decide +kernel)
abbrev mX8_takes : mM := (yX8_takes, cX8_takes, 4, (some .int))
theorem kc_X8_takes : Cond.code yX8_takes cX8_takes 4 (some .int) ∈ gtbl := wG 1153 (by decide +kernel) (by decide +kernel)
theorem ki_X8_takes : Cond.instanceMethod yX8_takes ∈ gtbl := wG 1152 (by decide +kernel) (by decide +kernel)
theorem kd_X8_takes : yX8_takes.cls = RX8 ∧ yX8_takes.cls ≠ "java/lang/invoke/MethodHandle" ∧ yX8_takes.cls ≠ "java/lang/invoke/VarHandle" ∧ (parseMethodDescriptor yX8_takes.desc).map (fun d => d.parameters.length) = some 2 := by decide +kernel
theorem ks_X8_takes : Cond.selects RX8 yX8_takes yX8_takes ∈ gtbl := wG 53 (by decide +kernel) (by decide +kernel)
abbrev mX8_figure : mM := (yX8_figure, cX8_figure, 3, (some .int))
theorem kc_X8_figure : Cond.code yX8_figure cX8_figure 3 (some .int) ∈ gtbl := wG 1161 (by decide +kernel) (by decide +kernel)
theorem ki_X8_figure : Cond.instanceMethod yX8_figure ∈ gtbl := wG 1160 (by decide +kernel) (by decide +kernel)
theorem kd_X8_figure : yX8_figure.cls = RX8 ∧ yX8_figure.cls ≠ "java/lang/invoke/MethodHandle" ∧ yX8_figure.cls ≠ "java/lang/invoke/VarHandle" ∧ (parseMethodDescriptor yX8_figure.desc).map (fun d => d.parameters.length) = some 2 := by decide +kernel
theorem ks_X8_figure : Cond.selects RX8 yX8_figure yX8_figure ∈ gtbl := wG 55 (by decide +kernel) (by decide +kernel)
abbrev mX8_kindOf : mM := (yX8_kindOf, cX8_kindOf, 1, (some .int))
theorem kc_X8_kindOf : Cond.code yX8_kindOf cX8_kindOf 1 (some .int) ∈ gtbl := wG 1172 (by decide +kernel) (by decide +kernel)
theorem kt_X8_kindOf : Cond.static yX8_kindOf ∈ gtbl := wG 1171 (by decide +kernel) (by decide +kernel)
theorem kd_X8_kindOf : yX8_kindOf.cls = RX8 ∧ yX8_kindOf.cls ≠ "java/lang/invoke/MethodHandle" ∧ yX8_kindOf.cls ≠ "java/lang/invoke/VarHandle" ∧ (parseMethodDescriptor yX8_kindOf.desc).map (fun d => d.parameters.length) = some 1 := by decide +kernel
abbrev mX8_behind : mM := (yX8_behind, cX8_behind, 3, (some .int))
theorem kc_X8_behind : Cond.code yX8_behind cX8_behind 3 (some .int) ∈ gtbl := wG 1180 (by decide +kernel) (by decide +kernel)
theorem ki_X8_behind : Cond.instanceMethod yX8_behind ∈ gtbl := wG 1179 (by decide +kernel) (by decide +kernel)
theorem kd_X8_behind : yX8_behind.cls = RX8 ∧ yX8_behind.cls ≠ "java/lang/invoke/MethodHandle" ∧ yX8_behind.cls ≠ "java/lang/invoke/VarHandle" ∧ (parseMethodDescriptor yX8_behind.desc).map (fun d => d.parameters.length) = some 2 := by decide +kernel
theorem ks_X8_behind : Cond.selects RX8 yX8_behind yX8_behind ∈ gtbl := wG 59 (by decide +kernel) (by decide +kernel)
abbrev mX8_must : mM := (yX8_must, cX8_must, 2, none)
theorem kc_X8_must : Cond.code yX8_must cX8_must 2 none ∈ gtbl := wG 1169 (by decide +kernel) (by decide +kernel)
theorem ki_X8_must : Cond.instanceMethod yX8_must ∈ gtbl := wG 1168 (by decide +kernel) (by decide +kernel)
theorem kd_X8_must : yX8_must.cls = RX8 ∧ yX8_must.cls ≠ "java/lang/invoke/MethodHandle" ∧ yX8_must.cls ≠ "java/lang/invoke/VarHandle" ∧ (parseMethodDescriptor yX8_must.desc).map (fun d => d.parameters.length) = some 1 := by decide +kernel
theorem ks_X8_must : Cond.selects RX8 yX8_must yX8_must ∈ gtbl := wG 57 (by decide +kernel) (by decide +kernel)
abbrev mX8_readsHour : mM := (yX8_readsHour, cX8_readsHour, 2, none)
theorem kc_X8_readsHour : Cond.code yX8_readsHour cX8_readsHour 2 none ∈ gtbl := wG 1165 (by decide +kernel) (by decide +kernel)
theorem ki_X8_readsHour : Cond.instanceMethod yX8_readsHour ∈ gtbl := wG 1164 (by decide +kernel) (by decide +kernel)
theorem kd_X8_readsHour : yX8_readsHour.cls = RX8 ∧ yX8_readsHour.cls ≠ "java/lang/invoke/MethodHandle" ∧ yX8_readsHour.cls ≠ "java/lang/invoke/VarHandle" ∧ (parseMethodDescriptor yX8_readsHour.desc).map (fun d => d.parameters.length) = some 0 := by decide +kernel
theorem ks_X8_readsHour : Cond.selects RX8 yX8_readsHour yX8_readsHour ∈ gtbl := wG 56 (by decide +kernel) (by decide +kernel)
abbrev mX8_readsUnit : mM := (yX8_readsUnit, cX8_readsUnit, 9, none)
theorem kc_X8_readsUnit : Cond.code yX8_readsUnit cX8_readsUnit 9 none ∈ gtbl := wG 1176 (by decide +kernel) (by decide +kernel)
theorem ki_X8_readsUnit : Cond.instanceMethod yX8_readsUnit ∈ gtbl := wG 1175 (by decide +kernel) (by decide +kernel)
theorem kd_X8_readsUnit : yX8_readsUnit.cls = RX8 ∧ yX8_readsUnit.cls ≠ "java/lang/invoke/MethodHandle" ∧ yX8_readsUnit.cls ≠ "java/lang/invoke/VarHandle" ∧ (parseMethodDescriptor yX8_readsUnit.desc).map (fun d => d.parameters.length) = some 0 := by decide +kernel
theorem ks_X8_readsUnit : Cond.selects RX8 yX8_readsUnit yX8_readsUnit ∈ gtbl := wG 58 (by decide +kernel) (by decide +kernel)
abbrev mX8_day : mM := (yX8_day, cX8_day, 2, (some .int))
theorem kc_X8_day : Cond.code yX8_day cX8_day 2 (some .int) ∈ gtbl := wG 1141 (by decide +kernel) (by decide +kernel)
theorem ki_X8_day : Cond.instanceMethod yX8_day ∈ gtbl := wG 1139 (by decide +kernel) (by decide +kernel)
theorem kd_X8_day : yX8_day.cls = RX8 ∧ yX8_day.cls ≠ "java/lang/invoke/MethodHandle" ∧ yX8_day.cls ≠ "java/lang/invoke/VarHandle" ∧ (parseMethodDescriptor yX8_day.desc).map (fun d => d.parameters.length) = some 0 := by decide +kernel
theorem ks_X8_day : Cond.selects RX8 yX8_day yX8_day ∈ gtbl := wG 1140 (by decide +kernel) (by decide +kernel)
abbrev mX8_fault : mM := (yX8_fault, cX8_fault, 1, (some .int))
theorem kc_X8_fault : Cond.code yX8_fault cX8_fault 1 (some .int) ∈ gtbl := wG 1188 (by decide +kernel) (by decide +kernel)
theorem ki_X8_fault : Cond.instanceMethod yX8_fault ∈ gtbl := wG 1186 (by decide +kernel) (by decide +kernel)
theorem kd_X8_fault : yX8_fault.cls = RX8 ∧ yX8_fault.cls ≠ "java/lang/invoke/MethodHandle" ∧ yX8_fault.cls ≠ "java/lang/invoke/VarHandle" ∧ (parseMethodDescriptor yX8_fault.desc).map (fun d => d.parameters.length) = some 0 := by decide +kernel
theorem ks_X8_fault : Cond.selects RX8 yX8_fault yX8_fault ∈ gtbl := wG 1187 (by decide +kernel) (by decide +kernel)
abbrev mX8_isDay : mM := (yX8_isDay, cX8_isDay, 1, (some .boolean))
theorem kc_X8_isDay : Cond.code yX8_isDay cX8_isDay 1 (some .boolean) ∈ gtbl := wG 1209 (by decide +kernel) (by decide +kernel)
theorem ki_X8_isDay : Cond.instanceMethod yX8_isDay ∈ gtbl := wG 1208 (by decide +kernel) (by decide +kernel)
theorem kd_X8_isDay : yX8_isDay.cls = RX8 ∧ yX8_isDay.cls ≠ "java/lang/invoke/MethodHandle" ∧ yX8_isDay.cls ≠ "java/lang/invoke/VarHandle" ∧ (parseMethodDescriptor yX8_isDay.desc).map (fun d => d.parameters.length) = some 0 := by decide +kernel
theorem ks_X8_isDay : Cond.selects RX8 yX8_isDay yX8_isDay ∈ gtbl := wG 62 (by decide +kernel) (by decide +kernel)
abbrev mX8_isUnit : mM := (yX8_isUnit, cX8_isUnit, 2, (some .boolean))
theorem kc_X8_isUnit : Cond.code yX8_isUnit cX8_isUnit 2 (some .boolean) ∈ gtbl := wG 1196 (by decide +kernel) (by decide +kernel)
theorem ki_X8_isUnit : Cond.instanceMethod yX8_isUnit ∈ gtbl := wG 1195 (by decide +kernel) (by decide +kernel)
theorem kd_X8_isUnit : yX8_isUnit.cls = RX8 ∧ yX8_isUnit.cls ≠ "java/lang/invoke/MethodHandle" ∧ yX8_isUnit.cls ≠ "java/lang/invoke/VarHandle" ∧ (parseMethodDescriptor yX8_isUnit.desc).map (fun d => d.parameters.length) = some 1 := by decide +kernel
theorem ks_X8_isUnit : Cond.selects RX8 yX8_isUnit yX8_isUnit ∈ gtbl := wG 60 (by decide +kernel) (by decide +kernel)
abbrev mX8_isHour : mM := (yX8_isHour, cX8_isHour, 2, (some .boolean))
theorem kc_X8_isHour : Cond.code yX8_isHour cX8_isHour 2 (some .boolean) ∈ gtbl := wG 1268 (by decide +kernel) (by decide +kernel)
theorem ki_X8_isHour : Cond.instanceMethod yX8_isHour ∈ gtbl := wG 1267 (by decide +kernel) (by decide +kernel)
theorem kd_X8_isHour : yX8_isHour.cls = RX8 ∧ yX8_isHour.cls ≠ "java/lang/invoke/MethodHandle" ∧ yX8_isHour.cls ≠ "java/lang/invoke/VarHandle" ∧ (parseMethodDescriptor yX8_isHour.desc).map (fun d => d.parameters.length) = some 1 := by decide +kernel
theorem ks_X8_isHour : Cond.selects RX8 yX8_isHour yX8_isHour ∈ gtbl := wG 68 (by decide +kernel) (by decide +kernel)
abbrev mX8_sortOf : mM := (yX8_sortOf, cX8_sortOf, 2, (some .int))
theorem kc_X8_sortOf : Cond.code yX8_sortOf cX8_sortOf 2 (some .int) ∈ gtbl := wG 1236 (by decide +kernel) (by decide +kernel)
theorem kt_X8_sortOf : Cond.static yX8_sortOf ∈ gtbl := wG 1235 (by decide +kernel) (by decide +kernel)
theorem kd_X8_sortOf : yX8_sortOf.cls = RX8 ∧ yX8_sortOf.cls ≠ "java/lang/invoke/MethodHandle" ∧ yX8_sortOf.cls ≠ "java/lang/invoke/VarHandle" ∧ (parseMethodDescriptor yX8_sortOf.desc).map (fun d => d.parameters.length) = some 2 := by decide +kernel
abbrev mX8_floor : mM := (yX8_floor, cX8_floor, 2, (some .int))
theorem kc_X8_floor : Cond.code yX8_floor cX8_floor 2 (some .int) ∈ gtbl := wG 1233 (by decide +kernel) (by decide +kernel)
theorem kt_X8_floor : Cond.static yX8_floor ∈ gtbl := wG 1232 (by decide +kernel) (by decide +kernel)
theorem kd_X8_floor : yX8_floor.cls = RX8 ∧ yX8_floor.cls ≠ "java/lang/invoke/MethodHandle" ∧ yX8_floor.cls ≠ "java/lang/invoke/VarHandle" ∧ (parseMethodDescriptor yX8_floor.desc).map (fun d => d.parameters.length) = some 2 := by decide +kernel
abbrev mX8_roof : mM := (yX8_roof, cX8_roof, 3, (some .int))
theorem kc_X8_roof : Cond.code yX8_roof cX8_roof 3 (some .int) ∈ gtbl := wG 1239 (by decide +kernel) (by decide +kernel)
theorem kt_X8_roof : Cond.static yX8_roof ∈ gtbl := wG 1238 (by decide +kernel) (by decide +kernel)
theorem kd_X8_roof : yX8_roof.cls = RX8 ∧ yX8_roof.cls ≠ "java/lang/invoke/MethodHandle" ∧ yX8_roof.cls ≠ "java/lang/invoke/VarHandle" ∧ (parseMethodDescriptor yX8_roof.desc).map (fun d => d.parameters.length) = some 3 := by decide +kernel
abbrev mX8_startCost : mM := (yX8_startCost, cX8_startCost, 3, (some .int))
theorem kc_X8_startCost : Cond.code yX8_startCost cX8_startCost 3 (some .int) ∈ gtbl := wG 1246 (by decide +kernel) (by decide +kernel)
theorem kt_X8_startCost : Cond.static yX8_startCost ∈ gtbl := wG 1245 (by decide +kernel) (by decide +kernel)
theorem kd_X8_startCost : yX8_startCost.cls = RX8 ∧ yX8_startCost.cls ≠ "java/lang/invoke/MethodHandle" ∧ yX8_startCost.cls ≠ "java/lang/invoke/VarHandle" ∧ (parseMethodDescriptor yX8_startCost.desc).map (fun d => d.parameters.length) = some 2 := by decide +kernel
abbrev mX8_starts : mM := (yX8_starts, cX8_starts, 2, (some .boolean))
theorem kc_X8_starts : Cond.code yX8_starts cX8_starts 2 (some .boolean) ∈ gtbl := wG 1298 (by decide +kernel) (by decide +kernel)
theorem kt_X8_starts : Cond.static yX8_starts ∈ gtbl := wG 1297 (by decide +kernel) (by decide +kernel)
theorem kd_X8_starts : yX8_starts.cls = RX8 ∧ yX8_starts.cls ≠ "java/lang/invoke/MethodHandle" ∧ yX8_starts.cls ≠ "java/lang/invoke/VarHandle" ∧ (parseMethodDescriptor yX8_starts.desc).map (fun d => d.parameters.length) = some 2 := by decide +kernel
abbrev mX8_startsOf : mM := (yX8_startsOf, cX8_startsOf, 4, (some .int))
theorem kc_X8_startsOf : Cond.code yX8_startsOf cX8_startsOf 4 (some .int) ∈ gtbl := wG 1295 (by decide +kernel) (by decide +kernel)
theorem kt_X8_startsOf : Cond.static yX8_startsOf ∈ gtbl := wG 1294 (by decide +kernel) (by decide +kernel)
theorem kd_X8_startsOf : yX8_startsOf.cls = RX8 ∧ yX8_startsOf.cls ≠ "java/lang/invoke/MethodHandle" ∧ yX8_startsOf.cls ≠ "java/lang/invoke/VarHandle" ∧ (parseMethodDescriptor yX8_startsOf.desc).map (fun d => d.parameters.length) = some 2 := by decide +kernel
abbrev mX8_keeps : mM := (yX8_keeps, cX8_keeps, 7, (some .boolean))
theorem kc_X8_keeps : Cond.code yX8_keeps cX8_keeps 7 (some .boolean) ∈ gtbl := wG 1301 (by decide +kernel) (by decide +kernel)
theorem kt_X8_keeps : Cond.static yX8_keeps ∈ gtbl := wG 1300 (by decide +kernel) (by decide +kernel)
theorem kd_X8_keeps : yX8_keeps.cls = RX8 ∧ yX8_keeps.cls ≠ "java/lang/invoke/MethodHandle" ∧ yX8_keeps.cls ≠ "java/lang/invoke/VarHandle" ∧ (parseMethodDescriptor yX8_keeps.desc).map (fun d => d.parameters.length) = some 3 := by decide +kernel
abbrev mX8_sumOf : mM := (yX8_sumOf, cX8_sumOf, 6, (some .int))
theorem kc_X8_sumOf : Cond.code yX8_sumOf cX8_sumOf 6 (some .int) ∈ gtbl := wG 1227 (by decide +kernel) (by decide +kernel)
theorem kt_X8_sumOf : Cond.static yX8_sumOf ∈ gtbl := wG 1226 (by decide +kernel) (by decide +kernel)
theorem kd_X8_sumOf : yX8_sumOf.cls = RX8 ∧ yX8_sumOf.cls ≠ "java/lang/invoke/MethodHandle" ∧ yX8_sumOf.cls ≠ "java/lang/invoke/VarHandle" ∧ (parseMethodDescriptor yX8_sumOf.desc).map (fun d => d.parameters.length) = some 4 := by decide +kernel
abbrev mX8_isMet : mM := (yX8_isMet, cX8_isMet, 4, (some .boolean))
theorem kc_X8_isMet : Cond.code yX8_isMet cX8_isMet 4 (some .boolean) ∈ gtbl := wG 1224 (by decide +kernel) (by decide +kernel)
theorem kt_X8_isMet : Cond.static yX8_isMet ∈ gtbl := wG 1223 (by decide +kernel) (by decide +kernel)
theorem kd_X8_isMet : yX8_isMet.cls = RX8 ∧ yX8_isMet.cls ≠ "java/lang/invoke/MethodHandle" ∧ yX8_isMet.cls ≠ "java/lang/invoke/VarHandle" ∧ (parseMethodDescriptor yX8_isMet.desc).map (fun d => d.parameters.length) = some 4 := by decide +kernel
abbrev mX8_shares : mM := (yX8_shares, cX8_shares, 11, (some .int))
theorem kc_X8_shares : Cond.code yX8_shares cX8_shares 11 (some .int) ∈ gtbl := wG 1243 (by decide +kernel) (by decide +kernel)
theorem ki_X8_shares : Cond.instanceMethod yX8_shares ∈ gtbl := wG 1242 (by decide +kernel) (by decide +kernel)
theorem kd_X8_shares : yX8_shares.cls = RX8 ∧ yX8_shares.cls ≠ "java/lang/invoke/MethodHandle" ∧ yX8_shares.cls ≠ "java/lang/invoke/VarHandle" ∧ (parseMethodDescriptor yX8_shares.desc).map (fun d => d.parameters.length) = some 4 := by decide +kernel
theorem ks_X8_shares : Cond.selects RX8 yX8_shares yX8_shares ∈ gtbl := wG 66 (by decide +kernel) (by decide +kernel)
abbrev mX8_onAt : mM := (yX8_onAt, cX8_onAt, 4, (some .int))
theorem kc_X8_onAt : Cond.code yX8_onAt cX8_onAt 4 (some .int) ∈ gtbl := wG 1308 (by decide +kernel) (by decide +kernel)
theorem kt_X8_onAt : Cond.static yX8_onAt ∈ gtbl := wG 1307 (by decide +kernel) (by decide +kernel)
theorem kd_X8_onAt : yX8_onAt.cls = RX8 ∧ yX8_onAt.cls ≠ "java/lang/invoke/MethodHandle" ∧ yX8_onAt.cls ≠ "java/lang/invoke/VarHandle" ∧ (parseMethodDescriptor yX8_onAt.desc).map (fun d => d.parameters.length) = some 2 := by decide +kernel
abbrev mX8_startingAt : mM := (yX8_startingAt, cX8_startingAt, 4, (some .int))
theorem kc_X8_startingAt : Cond.code yX8_startingAt cX8_startingAt 4 (some .int) ∈ gtbl := wG 1311 (by decide +kernel) (by decide +kernel)
theorem kt_X8_startingAt : Cond.static yX8_startingAt ∈ gtbl := wG 1310 (by decide +kernel) (by decide +kernel)
theorem kd_X8_startingAt : yX8_startingAt.cls = RX8 ∧ yX8_startingAt.cls ≠ "java/lang/invoke/MethodHandle" ∧ yX8_startingAt.cls ≠ "java/lang/invoke/VarHandle" ∧ (parseMethodDescriptor yX8_startingAt.desc).map (fun d => d.parameters.length) = some 2 := by decide +kernel
abbrev mX8_goes : mM := (yX8_goes, cX8_goes, 5, (some .int))
theorem kc_X8_goes : Cond.code yX8_goes cX8_goes 5 (some .int) ∈ gtbl := wG 1257 (by decide +kernel) (by decide +kernel)
theorem kt_X8_goes : Cond.static yX8_goes ∈ gtbl := wG 1256 (by decide +kernel) (by decide +kernel)
theorem kd_X8_goes : yX8_goes.cls = RX8 ∧ yX8_goes.cls ≠ "java/lang/invoke/MethodHandle" ∧ yX8_goes.cls ≠ "java/lang/invoke/VarHandle" ∧ (parseMethodDescriptor yX8_goes.desc).map (fun d => d.parameters.length) = some 5 := by decide +kernel
abbrev mX8_fillsCosts : mM := (yX8_fillsCosts, cX8_fillsCosts, 9, none)
theorem kc_X8_fillsCosts : Cond.code yX8_fillsCosts cX8_fillsCosts 9 none ∈ gtbl := wG 1221 (by decide +kernel) (by decide +kernel)
theorem ki_X8_fillsCosts : Cond.instanceMethod yX8_fillsCosts ∈ gtbl := wG 1220 (by decide +kernel) (by decide +kernel)
theorem kd_X8_fillsCosts : yX8_fillsCosts.cls = RX8 ∧ yX8_fillsCosts.cls ≠ "java/lang/invoke/MethodHandle" ∧ yX8_fillsCosts.cls ≠ "java/lang/invoke/VarHandle" ∧ (parseMethodDescriptor yX8_fillsCosts.desc).map (fun d => d.parameters.length) = some 1 := by decide +kernel
theorem ks_X8_fillsCosts : Cond.selects RX8 yX8_fillsCosts yX8_fillsCosts ∈ gtbl := wG 65 (by decide +kernel) (by decide +kernel)
abbrev mX8_costFrom : mM := (yX8_costFrom, cX8_costFrom, 13, (some .int))
theorem kc_X8_costFrom : Cond.code yX8_costFrom cX8_costFrom 13 (some .int) ∈ gtbl := wG 1254 (by decide +kernel) (by decide +kernel)
theorem ki_X8_costFrom : Cond.instanceMethod yX8_costFrom ∈ gtbl := wG 1253 (by decide +kernel) (by decide +kernel)
theorem kd_X8_costFrom : yX8_costFrom.cls = RX8 ∧ yX8_costFrom.cls ≠ "java/lang/invoke/MethodHandle" ∧ yX8_costFrom.cls ≠ "java/lang/invoke/VarHandle" ∧ (parseMethodDescriptor yX8_costFrom.desc).map (fun d => d.parameters.length) = some 5 := by decide +kernel
theorem ks_X8_costFrom : Cond.selects RX8 yX8_costFrom yX8_costFrom ∈ gtbl := wG 67 (by decide +kernel) (by decide +kernel)
abbrev mX8_stateOf : mM := (yX8_stateOf, cX8_stateOf, 3, (some .int))
theorem kc_X8_stateOf : Cond.code yX8_stateOf cX8_stateOf 3 (some .int) ∈ gtbl := wG 1250 (by decide +kernel) (by decide +kernel)
theorem kt_X8_stateOf : Cond.static yX8_stateOf ∈ gtbl := wG 1249 (by decide +kernel) (by decide +kernel)
theorem kd_X8_stateOf : yX8_stateOf.cls = RX8 ∧ yX8_stateOf.cls ≠ "java/lang/invoke/MethodHandle" ∧ yX8_stateOf.cls ≠ "java/lang/invoke/VarHandle" ∧ (parseMethodDescriptor yX8_stateOf.desc).map (fun d => d.parameters.length) = some 1 := by decide +kernel
abbrev mX8_nextOf : mM := (yX8_nextOf, cX8_nextOf, 8, (some .int))
theorem kc_X8_nextOf : Cond.code yX8_nextOf cX8_nextOf 8 (some .int) ∈ gtbl := wG 1260 (by decide +kernel) (by decide +kernel)
theorem kt_X8_nextOf : Cond.static yX8_nextOf ∈ gtbl := wG 1259 (by decide +kernel) (by decide +kernel)
theorem kd_X8_nextOf : yX8_nextOf.cls = RX8 ∧ yX8_nextOf.cls ≠ "java/lang/invoke/MethodHandle" ∧ yX8_nextOf.cls ≠ "java/lang/invoke/VarHandle" ∧ (parseMethodDescriptor yX8_nextOf.desc).map (fun d => d.parameters.length) = some 4 := by decide +kernel
abbrev mX8_finds : mM := (yX8_finds, cX8_finds, 10, none)
theorem kc_X8_finds : Cond.code yX8_finds cX8_finds 10 none ∈ gtbl := wG 1217 (by decide +kernel) (by decide +kernel)
theorem ki_X8_finds : Cond.instanceMethod yX8_finds ∈ gtbl := wG 1216 (by decide +kernel) (by decide +kernel)
theorem kd_X8_finds : yX8_finds.cls = RX8 ∧ yX8_finds.cls ≠ "java/lang/invoke/MethodHandle" ∧ yX8_finds.cls ≠ "java/lang/invoke/VarHandle" ∧ (parseMethodDescriptor yX8_finds.desc).map (fun d => d.parameters.length) = some 2 := by decide +kernel
theorem ks_X8_finds : Cond.selects RX8 yX8_finds yX8_finds ∈ gtbl := wG 64 (by decide +kernel) (by decide +kernel)
abbrev mX8_bestCost : mM := (yX8_bestCost, cX8_bestCost, 3, (some .int))
theorem kc_X8_bestCost : Cond.code yX8_bestCost cX8_bestCost 3 (some .int) ∈ gtbl := wG 1213 (by decide +kernel) (by decide +kernel)
theorem ki_X8_bestCost : Cond.instanceMethod yX8_bestCost ∈ gtbl := wG 1212 (by decide +kernel) (by decide +kernel)
theorem kd_X8_bestCost : yX8_bestCost.cls = RX8 ∧ yX8_bestCost.cls ≠ "java/lang/invoke/MethodHandle" ∧ yX8_bestCost.cls ≠ "java/lang/invoke/VarHandle" ∧ (parseMethodDescriptor yX8_bestCost.desc).map (fun d => d.parameters.length) = some 2 := by decide +kernel
theorem ks_X8_bestCost : Cond.selects RX8 yX8_bestCost yX8_bestCost ∈ gtbl := wG 63 (by decide +kernel) (by decide +kernel)
abbrev mX8_notes : mM := (yX8_notes, cX8_notes, 2, none)
theorem kc_X8_notes : Cond.code yX8_notes cX8_notes 2 none ∈ gtbl := wG 1201 (by decide +kernel) (by decide +kernel)
theorem ki_X8_notes : Cond.instanceMethod yX8_notes ∈ gtbl := wG 1200 (by decide +kernel) (by decide +kernel)
theorem kd_X8_notes : yX8_notes.cls = RX8 ∧ yX8_notes.cls ≠ "java/lang/invoke/MethodHandle" ∧ yX8_notes.cls ≠ "java/lang/invoke/VarHandle" ∧ (parseMethodDescriptor yX8_notes.desc).map (fun d => d.parameters.length) = some 0 := by decide +kernel
theorem ks_X8_notes : Cond.selects RX8 yX8_notes yX8_notes ∈ gtbl := wG 61 (by decide +kernel) (by decide +kernel)
abbrev mX8_run : mM := (yX8_run, cX8_run, 4, (some .int))
theorem kc_X8_run : Cond.code yX8_run cX8_run 4 (some .int) ∈ gtbl := wG 1192 (by decide +kernel) (by decide +kernel)
theorem ki_X8_run : Cond.instanceMethod yX8_run ∈ gtbl := wG 1190 (by decide +kernel) (by decide +kernel)
theorem kd_X8_run : yX8_run.cls = RX8 ∧ yX8_run.cls ≠ "java/lang/invoke/MethodHandle" ∧ yX8_run.cls ≠ "java/lang/invoke/VarHandle" ∧ (parseMethodDescriptor yX8_run.desc).map (fun d => d.parameters.length) = some 2 := by decide +kernel
theorem ks_X8_run : Cond.selects RX8 yX8_run yX8_run ∈ gtbl := wG 1191 (by decide +kernel) (by decide +kernel)
abbrev mX8_layBest : mM := (yX8_layBest, cX8_layBest, 5, (some .int))
theorem kc_X8_layBest : Cond.code yX8_layBest cX8_layBest 5 (some .int) ∈ gtbl := wG 1205 (by decide +kernel) (by decide +kernel)
theorem ki_X8_layBest : Cond.instanceMethod yX8_layBest ∈ gtbl := wG 1203 (by decide +kernel) (by decide +kernel)
theorem kd_X8_layBest : yX8_layBest.cls = RX8 ∧ yX8_layBest.cls ≠ "java/lang/invoke/MethodHandle" ∧ yX8_layBest.cls ≠ "java/lang/invoke/VarHandle" ∧ (parseMethodDescriptor yX8_layBest.desc).map (fun d => d.parameters.length) = some 0 := by decide +kernel
theorem ks_X8_layBest : Cond.selects RX8 yX8_layBest yX8_layBest ∈ gtbl := wG 1204 (by decide +kernel) (by decide +kernel)
abbrev mX8_becomes : mM := (yX8_becomes, cX8_becomes, 4, (some .int))
theorem kc_X8_becomes : Cond.code yX8_becomes cX8_becomes 4 (some .int) ∈ gtbl := wG 1272 (by decide +kernel) (by decide +kernel)
theorem ki_X8_becomes : Cond.instanceMethod yX8_becomes ∈ gtbl := wG 1271 (by decide +kernel) (by decide +kernel)
theorem kd_X8_becomes : yX8_becomes.cls = RX8 ∧ yX8_becomes.cls ≠ "java/lang/invoke/MethodHandle" ∧ yX8_becomes.cls ≠ "java/lang/invoke/VarHandle" ∧ (parseMethodDescriptor yX8_becomes.desc).map (fun d => d.parameters.length) = some 2 := by decide +kernel
theorem ks_X8_becomes : Cond.selects RX8 yX8_becomes yX8_becomes ∈ gtbl := wG 69 (by decide +kernel) (by decide +kernel)
abbrev mX8_demand : mM := (yX8_demand, cX8_demand, 3, (some .int))
theorem kc_X8_demand : Cond.code yX8_demand cX8_demand 3 (some .int) ∈ gtbl := wG 1264 (by decide +kernel) (by decide +kernel)
theorem ki_X8_demand : Cond.instanceMethod yX8_demand ∈ gtbl := wG 1262 (by decide +kernel) (by decide +kernel)
theorem kd_X8_demand : yX8_demand.cls = RX8 ∧ yX8_demand.cls ≠ "java/lang/invoke/MethodHandle" ∧ yX8_demand.cls ≠ "java/lang/invoke/VarHandle" ∧ (parseMethodDescriptor yX8_demand.desc).map (fun d => d.parameters.length) = some 2 := by decide +kernel
theorem ks_X8_demand : Cond.selects RX8 yX8_demand yX8_demand ∈ gtbl := wG 1263 (by decide +kernel) (by decide +kernel)
abbrev mX8_reserve : mM := (yX8_reserve, cX8_reserve, 2, (some .int))
theorem kc_X8_reserve : Cond.code yX8_reserve cX8_reserve 2 (some .int) ∈ gtbl := wG 1276 (by decide +kernel) (by decide +kernel)
theorem ki_X8_reserve : Cond.instanceMethod yX8_reserve ∈ gtbl := wG 1274 (by decide +kernel) (by decide +kernel)
theorem kd_X8_reserve : yX8_reserve.cls = RX8 ∧ yX8_reserve.cls ≠ "java/lang/invoke/MethodHandle" ∧ yX8_reserve.cls ≠ "java/lang/invoke/VarHandle" ∧ (parseMethodDescriptor yX8_reserve.desc).map (fun d => d.parameters.length) = some 1 := by decide +kernel
theorem ks_X8_reserve : Cond.selects RX8 yX8_reserve yX8_reserve ∈ gtbl := wG 1275 (by decide +kernel) (by decide +kernel)
abbrev mX8_price : mM := (yX8_price, cX8_price, 3, (some .int))
theorem kc_X8_price : Cond.code yX8_price cX8_price 3 (some .int) ∈ gtbl := wG 1280 (by decide +kernel) (by decide +kernel)
theorem ki_X8_price : Cond.instanceMethod yX8_price ∈ gtbl := wG 1278 (by decide +kernel) (by decide +kernel)
theorem kd_X8_price : yX8_price.cls = RX8 ∧ yX8_price.cls ≠ "java/lang/invoke/MethodHandle" ∧ yX8_price.cls ≠ "java/lang/invoke/VarHandle" ∧ (parseMethodDescriptor yX8_price.desc).map (fun d => d.parameters.length) = some 2 := by decide +kernel
theorem ks_X8_price : Cond.selects RX8 yX8_price yX8_price ∈ gtbl := wG 1279 (by decide +kernel) (by decide +kernel)
abbrev mX8_become : mM := (yX8_become, cX8_become, 3, (some .int))
theorem kc_X8_become : Cond.code yX8_become cX8_become 3 (some .int) ∈ gtbl := wG 1284 (by decide +kernel) (by decide +kernel)
theorem ki_X8_become : Cond.instanceMethod yX8_become ∈ gtbl := wG 1282 (by decide +kernel) (by decide +kernel)
theorem kd_X8_become : yX8_become.cls = RX8 ∧ yX8_become.cls ≠ "java/lang/invoke/MethodHandle" ∧ yX8_become.cls ≠ "java/lang/invoke/VarHandle" ∧ (parseMethodDescriptor yX8_become.desc).map (fun d => d.parameters.length) = some 2 := by decide +kernel
theorem ks_X8_become : Cond.selects RX8 yX8_become yX8_become ∈ gtbl := wG 1283 (by decide +kernel) (by decide +kernel)
abbrev mX8_undo : mM := (yX8_undo, cX8_undo, 1, (some .int))
theorem kc_X8_undo : Cond.code yX8_undo cX8_undo 1 (some .int) ∈ gtbl := wG 1288 (by decide +kernel) (by decide +kernel)
theorem ki_X8_undo : Cond.instanceMethod yX8_undo ∈ gtbl := wG 1286 (by decide +kernel) (by decide +kernel)
theorem kd_X8_undo : yX8_undo.cls = RX8 ∧ yX8_undo.cls ≠ "java/lang/invoke/MethodHandle" ∧ yX8_undo.cls ≠ "java/lang/invoke/VarHandle" ∧ (parseMethodDescriptor yX8_undo.desc).map (fun d => d.parameters.length) = some 0 := by decide +kernel
theorem ks_X8_undo : Cond.selects RX8 yX8_undo yX8_undo ∈ gtbl := wG 1287 (by decide +kernel) (by decide +kernel)
abbrev mX8_unit : mM := (yX8_unit, cX8_unit, 4, (some .int))
theorem kc_X8_unit : Cond.code yX8_unit cX8_unit 4 (some .int) ∈ gtbl := wG 1292 (by decide +kernel) (by decide +kernel)
theorem ki_X8_unit : Cond.instanceMethod yX8_unit ∈ gtbl := wG 1290 (by decide +kernel) (by decide +kernel)
theorem kd_X8_unit : yX8_unit.cls = RX8 ∧ yX8_unit.cls ≠ "java/lang/invoke/MethodHandle" ∧ yX8_unit.cls ≠ "java/lang/invoke/VarHandle" ∧ (parseMethodDescriptor yX8_unit.desc).map (fun d => d.parameters.length) = some 2 := by decide +kernel
theorem ks_X8_unit : Cond.selects RX8 yX8_unit yX8_unit ∈ gtbl := wG 1291 (by decide +kernel) (by decide +kernel)
abbrev mX8_hour : mM := (yX8_hour, cX8_hour, 5, (some .int))
theorem kc_X8_hour : Cond.code yX8_hour cX8_hour 5 (some .int) ∈ gtbl := wG 1305 (by decide +kernel) (by decide +kernel)
theorem ki_X8_hour : Cond.instanceMethod yX8_hour ∈ gtbl := wG 1303 (by decide +kernel) (by decide +kernel)
theorem kd_X8_hour : yX8_hour.cls = RX8 ∧ yX8_hour.cls ≠ "java/lang/invoke/MethodHandle" ∧ yX8_hour.cls ≠ "java/lang/invoke/VarHandle" ∧ (parseMethodDescriptor yX8_hour.desc).map (fun d => d.parameters.length) = some 2 := by decide +kernel
theorem ks_X8_hour : Cond.selects RX8 yX8_hour yX8_hour ∈ gtbl := wG 1304 (by decide +kernel) (by decide +kernel)
abbrev mX8_gives : mM := (yX8_gives, cX8_gives, 5, (some .int))
theorem kc_X8_gives : Cond.code yX8_gives cX8_gives 5 (some .int) ∈ gtbl := wG 1315 (by decide +kernel) (by decide +kernel)
theorem ki_X8_gives : Cond.instanceMethod yX8_gives ∈ gtbl := wG 1313 (by decide +kernel) (by decide +kernel)
theorem kd_X8_gives : yX8_gives.cls = RX8 ∧ yX8_gives.cls ≠ "java/lang/invoke/MethodHandle" ∧ yX8_gives.cls ≠ "java/lang/invoke/VarHandle" ∧ (parseMethodDescriptor yX8_gives.desc).map (fun d => d.parameters.length) = some 2 := by decide +kernel
theorem ks_X8_gives : Cond.selects RX8 yX8_gives yX8_gives ∈ gtbl := wG 1314 (by decide +kernel) (by decide +kernel)
abbrev mX8_planCost : mM := (yX8_planCost, cX8_planCost, 5, (some .int))
theorem kc_X8_planCost : Cond.code yX8_planCost cX8_planCost 5 (some .int) ∈ gtbl := wG 1323 (by decide +kernel) (by decide +kernel)
theorem ki_X8_planCost : Cond.instanceMethod yX8_planCost ∈ gtbl := wG 1322 (by decide +kernel) (by decide +kernel)
theorem kd_X8_planCost : yX8_planCost.cls = RX8 ∧ yX8_planCost.cls ≠ "java/lang/invoke/MethodHandle" ∧ yX8_planCost.cls ≠ "java/lang/invoke/VarHandle" ∧ (parseMethodDescriptor yX8_planCost.desc).map (fun d => d.parameters.length) = some 0 := by decide +kernel
theorem ks_X8_planCost : Cond.selects RX8 yX8_planCost yX8_planCost ∈ gtbl := wG 70 (by decide +kernel) (by decide +kernel)
abbrev mX8_plan : mM := (yX8_plan, cX8_plan, 4, (some .int))
theorem kc_X8_plan : Cond.code yX8_plan cX8_plan 4 (some .int) ∈ gtbl := wG 1319 (by decide +kernel) (by decide +kernel)
theorem ki_X8_plan : Cond.instanceMethod yX8_plan ∈ gtbl := wG 1317 (by decide +kernel) (by decide +kernel)
theorem kd_X8_plan : yX8_plan.cls = RX8 ∧ yX8_plan.cls ≠ "java/lang/invoke/MethodHandle" ∧ yX8_plan.cls ≠ "java/lang/invoke/VarHandle" ∧ (parseMethodDescriptor yX8_plan.desc).map (fun d => d.parameters.length) = some 1 := by decide +kernel
theorem ks_X8_plan : Cond.selects RX8 yX8_plan yX8_plan ∈ gtbl := wG 1318 (by decide +kernel) (by decide +kernel)
abbrev mX8_best : mM := (yX8_best, cX8_best, 3, (some .int))
theorem kc_X8_best : Cond.code yX8_best cX8_best 3 (some .int) ∈ gtbl := wG 1330 (by decide +kernel) (by decide +kernel)
theorem ki_X8_best : Cond.instanceMethod yX8_best ∈ gtbl := wG 1328 (by decide +kernel) (by decide +kernel)
theorem kd_X8_best : yX8_best.cls = RX8 ∧ yX8_best.cls ≠ "java/lang/invoke/MethodHandle" ∧ yX8_best.cls ≠ "java/lang/invoke/VarHandle" ∧ (parseMethodDescriptor yX8_best.desc).map (fun d => d.parameters.length) = some 1 := by decide +kernel
theorem ks_X8_best : Cond.selects RX8 yX8_best yX8_best ∈ gtbl := wG 1329 (by decide +kernel) (by decide +kernel)
abbrev mX8_givesAlone : mM := (yX8_givesAlone, cX8_givesAlone, 6, (some .long))
theorem kc_X8_givesAlone : Cond.code yX8_givesAlone cX8_givesAlone 6 (some .long) ∈ gtbl := wG 1342 (by decide +kernel) (by decide +kernel)
theorem kt_X8_givesAlone : Cond.static yX8_givesAlone ∈ gtbl := wG 1341 (by decide +kernel) (by decide +kernel)
theorem kd_X8_givesAlone : yX8_givesAlone.cls = RX8 ∧ yX8_givesAlone.cls ≠ "java/lang/invoke/MethodHandle" ∧ yX8_givesAlone.cls ≠ "java/lang/invoke/VarHandle" ∧ (parseMethodDescriptor yX8_givesAlone.desc).map (fun d => d.parameters.length) = some 5 := by decide +kernel
abbrev mX8_goesAlone : mM := (yX8_goesAlone, cX8_goesAlone, 8, none)
theorem kc_X8_goesAlone : Cond.code yX8_goesAlone cX8_goesAlone 8 none ∈ gtbl := wG 1339 (by decide +kernel) (by decide +kernel)
theorem ki_X8_goesAlone : Cond.instanceMethod yX8_goesAlone ∈ gtbl := wG 1338 (by decide +kernel) (by decide +kernel)
theorem kd_X8_goesAlone : yX8_goesAlone.cls = RX8 ∧ yX8_goesAlone.cls ≠ "java/lang/invoke/MethodHandle" ∧ yX8_goesAlone.cls ≠ "java/lang/invoke/VarHandle" ∧ (parseMethodDescriptor yX8_goesAlone.desc).map (fun d => d.parameters.length) = some 2 := by decide +kernel
theorem ks_X8_goesAlone : Cond.selects RX8 yX8_goesAlone yX8_goesAlone ∈ gtbl := wG 71 (by decide +kernel) (by decide +kernel)
abbrev mX8_alone : mM := (yX8_alone, cX8_alone, 6, (some .long))
theorem kc_X8_alone : Cond.code yX8_alone cX8_alone 6 (some .long) ∈ gtbl := wG 1334 (by decide +kernel) (by decide +kernel)
theorem ki_X8_alone : Cond.instanceMethod yX8_alone ∈ gtbl := wG 1332 (by decide +kernel) (by decide +kernel)
theorem kd_X8_alone : yX8_alone.cls = RX8 ∧ yX8_alone.cls ≠ "java/lang/invoke/MethodHandle" ∧ yX8_alone.cls ≠ "java/lang/invoke/VarHandle" ∧ (parseMethodDescriptor yX8_alone.desc).map (fun d => d.parameters.length) = some 4 := by decide +kernel
theorem ks_X8_alone : Cond.selects RX8 yX8_alone yX8_alone ∈ gtbl := wG 1333 (by decide +kernel) (by decide +kernel)
abbrev mX8_boundOf : mM := (yX8_boundOf, cX8_boundOf, 5, (some .long))
theorem kc_X8_boundOf : Cond.code yX8_boundOf cX8_boundOf 5 (some .long) ∈ gtbl := wG 1351 (by decide +kernel) (by decide +kernel)
theorem ki_X8_boundOf : Cond.instanceMethod yX8_boundOf ∈ gtbl := wG 1350 (by decide +kernel) (by decide +kernel)
theorem kd_X8_boundOf : yX8_boundOf.cls = RX8 ∧ yX8_boundOf.cls ≠ "java/lang/invoke/MethodHandle" ∧ yX8_boundOf.cls ≠ "java/lang/invoke/VarHandle" ∧ (parseMethodDescriptor yX8_boundOf.desc).map (fun d => d.parameters.length) = some 1 := by decide +kernel
theorem ks_X8_boundOf : Cond.selects RX8 yX8_boundOf yX8_boundOf ∈ gtbl := wG 72 (by decide +kernel) (by decide +kernel)
abbrev mX8_bound : mM := (yX8_bound, cX8_bound, 4, (some .long))
theorem kc_X8_bound : Cond.code yX8_bound cX8_bound 4 (some .long) ∈ gtbl := wG 1346 (by decide +kernel) (by decide +kernel)
theorem ki_X8_bound : Cond.instanceMethod yX8_bound ∈ gtbl := wG 1344 (by decide +kernel) (by decide +kernel)
theorem kd_X8_bound : yX8_bound.cls = RX8 ∧ yX8_bound.cls ≠ "java/lang/invoke/MethodHandle" ∧ yX8_bound.cls ≠ "java/lang/invoke/VarHandle" ∧ (parseMethodDescriptor yX8_bound.desc).map (fun d => d.parameters.length) = some 2 := by decide +kernel
theorem ks_X8_bound : Cond.selects RX8 yX8_bound yX8_bound ∈ gtbl := wG 1345 (by decide +kernel) (by decide +kernel)
abbrev mX8_moves : mM := (yX8_moves, cX8_moves, 7, (some .long))
theorem kc_X8_moves : Cond.code yX8_moves cX8_moves 7 (some .long) ∈ gtbl := wG 1359 (by decide +kernel) (by decide +kernel)
theorem ki_X8_moves : Cond.instanceMethod yX8_moves ∈ gtbl := wG 1358 (by decide +kernel) (by decide +kernel)
theorem kd_X8_moves : yX8_moves.cls = RX8 ∧ yX8_moves.cls ≠ "java/lang/invoke/MethodHandle" ∧ yX8_moves.cls ≠ "java/lang/invoke/VarHandle" ∧ (parseMethodDescriptor yX8_moves.desc).map (fun d => d.parameters.length) = some 1 := by decide +kernel
theorem ks_X8_moves : Cond.selects RX8 yX8_moves yX8_moves ∈ gtbl := wG 73 (by decide +kernel) (by decide +kernel)
abbrev mX8_moved : mM := (yX8_moved, cX8_moved, 5, (some .int))
theorem kc_X8_moved : Cond.code yX8_moved cX8_moved 5 (some .int) ∈ gtbl := wG 1355 (by decide +kernel) (by decide +kernel)
theorem ki_X8_moved : Cond.instanceMethod yX8_moved ∈ gtbl := wG 1353 (by decide +kernel) (by decide +kernel)
theorem kd_X8_moved : yX8_moved.cls = RX8 ∧ yX8_moved.cls ≠ "java/lang/invoke/MethodHandle" ∧ yX8_moved.cls ≠ "java/lang/invoke/VarHandle" ∧ (parseMethodDescriptor yX8_moved.desc).map (fun d => d.parameters.length) = some 2 := by decide +kernel
theorem ks_X8_moved : Cond.selects RX8 yX8_moved yX8_moved ∈ gtbl := wG 1354 (by decide +kernel) (by decide +kernel)
abbrev mX8_gap : mM := (yX8_gap, cX8_gap, 3, (some .int))
theorem kc_X8_gap : Cond.code yX8_gap cX8_gap 3 (some .int) ∈ gtbl := wG 1363 (by decide +kernel) (by decide +kernel)
theorem ki_X8_gap : Cond.instanceMethod yX8_gap ∈ gtbl := wG 1361 (by decide +kernel) (by decide +kernel)
theorem kd_X8_gap : yX8_gap.cls = RX8 ∧ yX8_gap.cls ≠ "java/lang/invoke/MethodHandle" ∧ yX8_gap.cls ≠ "java/lang/invoke/VarHandle" ∧ (parseMethodDescriptor yX8_gap.desc).map (fun d => d.parameters.length) = some 1 := by decide +kernel
theorem ks_X8_gap : Cond.selects RX8 yX8_gap yX8_gap ∈ gtbl := wG 1362 (by decide +kernel) (by decide +kernel)
abbrev mX8_more : mM := (yX8_more, cX8_more, 4, (some .int))
theorem kc_X8_more : Cond.code yX8_more cX8_more 4 (some .int) ∈ gtbl := wG 1367 (by decide +kernel) (by decide +kernel)
theorem ki_X8_more : Cond.instanceMethod yX8_more ∈ gtbl := wG 1365 (by decide +kernel) (by decide +kernel)
theorem kd_X8_more : yX8_more.cls = RX8 ∧ yX8_more.cls ≠ "java/lang/invoke/MethodHandle" ∧ yX8_more.cls ≠ "java/lang/invoke/VarHandle" ∧ (parseMethodDescriptor yX8_more.desc).map (fun d => d.parameters.length) = some 1 := by decide +kernel
theorem ks_X8_more : Cond.selects RX8 yX8_more yX8_more ∈ gtbl := wG 1366 (by decide +kernel) (by decide +kernel)
abbrev mX8_wanted : mM := (yX8_wanted, cX8_wanted, 3, (some .int))
theorem kc_X8_wanted : Cond.code yX8_wanted cX8_wanted 3 (some .int) ∈ gtbl := wG 1371 (by decide +kernel) (by decide +kernel)
theorem ki_X8_wanted : Cond.instanceMethod yX8_wanted ∈ gtbl := wG 1369 (by decide +kernel) (by decide +kernel)
theorem kd_X8_wanted : yX8_wanted.cls = RX8 ∧ yX8_wanted.cls ≠ "java/lang/invoke/MethodHandle" ∧ yX8_wanted.cls ≠ "java/lang/invoke/VarHandle" ∧ (parseMethodDescriptor yX8_wanted.desc).map (fun d => d.parameters.length) = some 0 := by decide +kernel
theorem ks_X8_wanted : Cond.selects RX8 yX8_wanted yX8_wanted ∈ gtbl := wG 1370 (by decide +kernel) (by decide +kernel)
abbrev mX8_who : mM := (yX8_who, cX8_who, 10, (some .int))
theorem kc_X8_who : Cond.code yX8_who cX8_who 10 (some .int) ∈ gtbl := wG 1375 (by decide +kernel) (by decide +kernel)
theorem ki_X8_who : Cond.instanceMethod yX8_who ∈ gtbl := wG 1373 (by decide +kernel) (by decide +kernel)
theorem kd_X8_who : yX8_who.cls = RX8 ∧ yX8_who.cls ≠ "java/lang/invoke/MethodHandle" ∧ yX8_who.cls ≠ "java/lang/invoke/VarHandle" ∧ (parseMethodDescriptor yX8_who.desc).map (fun d => d.parameters.length) = some 3 := by decide +kernel
theorem ks_X8_who : Cond.selects RX8 yX8_who yX8_who ∈ gtbl := wG 1374 (by decide +kernel) (by decide +kernel)
abbrev mX8_fits : mM := (yX8_fits, cX8_fits, 8, (some .int))
theorem kc_X8_fits : Cond.code yX8_fits cX8_fits 8 (some .int) ∈ gtbl := wG 1380 (by decide +kernel) (by decide +kernel)
theorem ki_X8_fits : Cond.instanceMethod yX8_fits ∈ gtbl := wG 1378 (by decide +kernel) (by decide +kernel)
theorem kd_X8_fits : yX8_fits.cls = RX8 ∧ yX8_fits.cls ≠ "java/lang/invoke/MethodHandle" ∧ yX8_fits.cls ≠ "java/lang/invoke/VarHandle" ∧ (parseMethodDescriptor yX8_fits.desc).map (fun d => d.parameters.length) = some 3 := by decide +kernel
theorem ks_X8_fits : Cond.selects RX8 yX8_fits yX8_fits ∈ gtbl := wG 1379 (by decide +kernel) (by decide +kernel)
abbrev mX8_drawn : mM := (yX8_drawn, cX8_drawn, 10, (some .int))
theorem kc_X8_drawn : Cond.code yX8_drawn cX8_drawn 10 (some .int) ∈ gtbl := wG 1384 (by decide +kernel) (by decide +kernel)
theorem ki_X8_drawn : Cond.instanceMethod yX8_drawn ∈ gtbl := wG 1382 (by decide +kernel) (by decide +kernel)
theorem kd_X8_drawn : yX8_drawn.cls = RX8 ∧ yX8_drawn.cls ≠ "java/lang/invoke/MethodHandle" ∧ yX8_drawn.cls ≠ "java/lang/invoke/VarHandle" ∧ (parseMethodDescriptor yX8_drawn.desc).map (fun d => d.parameters.length) = some 3 := by decide +kernel
theorem ks_X8_drawn : Cond.selects RX8 yX8_drawn yX8_drawn ∈ gtbl := wG 1383 (by decide +kernel) (by decide +kernel)
abbrev mX8_image : mM := (yX8_image, cX8_image, 2, (some .int))
theorem kc_X8_image : Cond.code yX8_image cX8_image 2 (some .int) ∈ gtbl := wG 1393 (by decide +kernel) (by decide +kernel)
theorem ki_X8_image : Cond.instanceMethod yX8_image ∈ gtbl := wG 1391 (by decide +kernel) (by decide +kernel)
theorem kd_X8_image : yX8_image.cls = RX8 ∧ yX8_image.cls ≠ "java/lang/invoke/MethodHandle" ∧ yX8_image.cls ≠ "java/lang/invoke/VarHandle" ∧ (parseMethodDescriptor yX8_image.desc).map (fun d => d.parameters.length) = some 1 := by decide +kernel
theorem ks_X8_image : Cond.selects RX8 yX8_image yX8_image ∈ gtbl := wG 1392 (by decide +kernel) (by decide +kernel)
abbrev mX8_restore : mM := (yX8_restore, cX8_restore, 2, (some .int))
theorem kc_X8_restore : Cond.code yX8_restore cX8_restore 2 (some .int) ∈ gtbl := wG 1397 (by decide +kernel) (by decide +kernel)
theorem ki_X8_restore : Cond.instanceMethod yX8_restore ∈ gtbl := wG 1395 (by decide +kernel) (by decide +kernel)
theorem kd_X8_restore : yX8_restore.cls = RX8 ∧ yX8_restore.cls ≠ "java/lang/invoke/MethodHandle" ∧ yX8_restore.cls ≠ "java/lang/invoke/VarHandle" ∧ (parseMethodDescriptor yX8_restore.desc).map (fun d => d.parameters.length) = some 1 := by decide +kernel
theorem ks_X8_restore : Cond.selects RX8 yX8_restore yX8_restore ∈ gtbl := wG 1396 (by decide +kernel) (by decide +kernel)
abbrev mX8_kindIn : mM := (yX8_kindIn, cX8_kindIn, 2, (some .int))
theorem kc_X8_kindIn : Cond.code yX8_kindIn cX8_kindIn 2 (some .int) ∈ gtbl := wG 1405 (by decide +kernel) (by decide +kernel)
theorem ki_X8_kindIn : Cond.instanceMethod yX8_kindIn ∈ gtbl := wG 1404 (by decide +kernel) (by decide +kernel)
theorem kd_X8_kindIn : yX8_kindIn.cls = RX8 ∧ yX8_kindIn.cls ≠ "java/lang/invoke/MethodHandle" ∧ yX8_kindIn.cls ≠ "java/lang/invoke/VarHandle" ∧ (parseMethodDescriptor yX8_kindIn.desc).map (fun d => d.parameters.length) = some 1 := by decide +kernel
theorem ks_X8_kindIn : Cond.selects RX8 yX8_kindIn yX8_kindIn ∈ gtbl := wG 74 (by decide +kernel) (by decide +kernel)
abbrev mX8_kind : mM := (yX8_kind, cX8_kind, 2, (some .int))
theorem kc_X8_kind : Cond.code yX8_kind cX8_kind 2 (some .int) ∈ gtbl := wG 1401 (by decide +kernel) (by decide +kernel)
theorem ki_X8_kind : Cond.instanceMethod yX8_kind ∈ gtbl := wG 1399 (by decide +kernel) (by decide +kernel)
theorem kd_X8_kind : yX8_kind.cls = RX8 ∧ yX8_kind.cls ≠ "java/lang/invoke/MethodHandle" ∧ yX8_kind.cls ≠ "java/lang/invoke/VarHandle" ∧ (parseMethodDescriptor yX8_kind.desc).map (fun d => d.parameters.length) = some 1 := by decide +kernel
theorem ks_X8_kind : Cond.selects RX8 yX8_kind yX8_kind ∈ gtbl := wG 1400 (by decide +kernel) (by decide +kernel)
abbrev mX8_as : mM := (yX8_as, cX8_as, 5, (some .int))
theorem kc_X8_as : Cond.code yX8_as cX8_as 5 (some .int) ∈ gtbl := wG 1409 (by decide +kernel) (by decide +kernel)
theorem ki_X8_as : Cond.instanceMethod yX8_as ∈ gtbl := wG 1407 (by decide +kernel) (by decide +kernel)
theorem kd_X8_as : yX8_as.cls = RX8 ∧ yX8_as.cls ≠ "java/lang/invoke/MethodHandle" ∧ yX8_as.cls ≠ "java/lang/invoke/VarHandle" ∧ (parseMethodDescriptor yX8_as.desc).map (fun d => d.parameters.length) = some 2 := by decide +kernel
theorem ks_X8_as : Cond.selects RX8 yX8_as yX8_as ∈ gtbl := wG 1408 (by decide +kernel) (by decide +kernel)
abbrev mX8_begins : mM := (yX8_begins, cX8_begins, 2, none)
theorem kc_X8_begins : Cond.code yX8_begins cX8_begins 2 none ∈ gtbl := wG 1421 (by decide +kernel) (by decide +kernel)
theorem ki_X8_begins : Cond.instanceMethod yX8_begins ∈ gtbl := wG 1420 (by decide +kernel) (by decide +kernel)
theorem kd_X8_begins : yX8_begins.cls = RX8 ∧ yX8_begins.cls ≠ "java/lang/invoke/MethodHandle" ∧ yX8_begins.cls ≠ "java/lang/invoke/VarHandle" ∧ (parseMethodDescriptor yX8_begins.desc).map (fun d => d.parameters.length) = some 1 := by decide +kernel
theorem ks_X8_begins : Cond.selects RX8 yX8_begins yX8_begins ∈ gtbl := wG 76 (by decide +kernel) (by decide +kernel)
abbrev mX8_plainMark : mM := (yX8_plainMark, cX8_plainMark, 4, (some .int))
theorem kc_X8_plainMark : Cond.code yX8_plainMark cX8_plainMark 4 (some .int) ∈ gtbl := wG 1429 (by decide +kernel) (by decide +kernel)
theorem ki_X8_plainMark : Cond.instanceMethod yX8_plainMark ∈ gtbl := wG 1428 (by decide +kernel) (by decide +kernel)
theorem kd_X8_plainMark : yX8_plainMark.cls = RX8 ∧ yX8_plainMark.cls ≠ "java/lang/invoke/MethodHandle" ∧ yX8_plainMark.cls ≠ "java/lang/invoke/VarHandle" ∧ (parseMethodDescriptor yX8_plainMark.desc).map (fun d => d.parameters.length) = some 1 := by decide +kernel
theorem ks_X8_plainMark : Cond.selects RX8 yX8_plainMark yX8_plainMark ∈ gtbl := wG 78 (by decide +kernel) (by decide +kernel)
abbrev mX8_waterSize : mM := (yX8_waterSize, cX8_waterSize, 4, (some .int))
theorem kc_X8_waterSize : Cond.code yX8_waterSize cX8_waterSize 4 (some .int) ∈ gtbl := wG 1417 (by decide +kernel) (by decide +kernel)
theorem ki_X8_waterSize : Cond.instanceMethod yX8_waterSize ∈ gtbl := wG 1416 (by decide +kernel) (by decide +kernel)
theorem kd_X8_waterSize : yX8_waterSize.cls = RX8 ∧ yX8_waterSize.cls ≠ "java/lang/invoke/MethodHandle" ∧ yX8_waterSize.cls ≠ "java/lang/invoke/VarHandle" ∧ (parseMethodDescriptor yX8_waterSize.desc).map (fun d => d.parameters.length) = some 1 := by decide +kernel
theorem ks_X8_waterSize : Cond.selects RX8 yX8_waterSize yX8_waterSize ∈ gtbl := wG 75 (by decide +kernel) (by decide +kernel)
abbrev mX8_plainSize : mM := (yX8_plainSize, cX8_plainSize, 4, (some .int))
theorem kc_X8_plainSize : Cond.code yX8_plainSize cX8_plainSize 4 (some .int) ∈ gtbl := wG 1425 (by decide +kernel) (by decide +kernel)
theorem ki_X8_plainSize : Cond.instanceMethod yX8_plainSize ∈ gtbl := wG 1424 (by decide +kernel) (by decide +kernel)
theorem kd_X8_plainSize : yX8_plainSize.cls = RX8 ∧ yX8_plainSize.cls ≠ "java/lang/invoke/MethodHandle" ∧ yX8_plainSize.cls ≠ "java/lang/invoke/VarHandle" ∧ (parseMethodDescriptor yX8_plainSize.desc).map (fun d => d.parameters.length) = some 1 := by decide +kernel
theorem ks_X8_plainSize : Cond.selects RX8 yX8_plainSize yX8_plainSize ∈ gtbl := wG 77 (by decide +kernel) (by decide +kernel)
abbrev mX8_waterMark : mM := (yX8_waterMark, cX8_waterMark, 2, (some .int))
theorem kc_X8_waterMark : Cond.code yX8_waterMark cX8_waterMark 2 (some .int) ∈ gtbl := wG 1433 (by decide +kernel) (by decide +kernel)
theorem ki_X8_waterMark : Cond.instanceMethod yX8_waterMark ∈ gtbl := wG 1432 (by decide +kernel) (by decide +kernel)
theorem kd_X8_waterMark : yX8_waterMark.cls = RX8 ∧ yX8_waterMark.cls ≠ "java/lang/invoke/MethodHandle" ∧ yX8_waterMark.cls ≠ "java/lang/invoke/VarHandle" ∧ (parseMethodDescriptor yX8_waterMark.desc).map (fun d => d.parameters.length) = some 1 := by decide +kernel
theorem ks_X8_waterMark : Cond.selects RX8 yX8_waterMark yX8_waterMark ∈ gtbl := wG 79 (by decide +kernel) (by decide +kernel)
abbrev mX8_ask : mM := (yX8_ask, cX8_ask, 4, (some .int))
theorem kc_X8_ask : Cond.code yX8_ask cX8_ask 4 (some .int) ∈ gtbl := wG 1413 (by decide +kernel) (by decide +kernel)
theorem ki_X8_ask : Cond.instanceMethod yX8_ask ∈ gtbl := wG 1411 (by decide +kernel) (by decide +kernel)
theorem kd_X8_ask : yX8_ask.cls = RX8 ∧ yX8_ask.cls ≠ "java/lang/invoke/MethodHandle" ∧ yX8_ask.cls ≠ "java/lang/invoke/VarHandle" ∧ (parseMethodDescriptor yX8_ask.desc).map (fun d => d.parameters.length) = some 2 := by decide +kernel
theorem ks_X8_ask : Cond.selects RX8 yX8_ask yX8_ask ∈ gtbl := wG 1412 (by decide +kernel) (by decide +kernel)
abbrev mX8_trace : mM := (yX8_trace, cX8_trace, 2, (some .int))
theorem kc_X8_trace : Cond.code yX8_trace cX8_trace 2 (some .int) ∈ gtbl := wG 1437 (by decide +kernel) (by decide +kernel)
theorem ki_X8_trace : Cond.instanceMethod yX8_trace ∈ gtbl := wG 1435 (by decide +kernel) (by decide +kernel)
theorem kd_X8_trace : yX8_trace.cls = RX8 ∧ yX8_trace.cls ≠ "java/lang/invoke/MethodHandle" ∧ yX8_trace.cls ≠ "java/lang/invoke/VarHandle" ∧ (parseMethodDescriptor yX8_trace.desc).map (fun d => d.parameters.length) = some 1 := by decide +kernel
theorem ks_X8_trace : Cond.selects RX8 yX8_trace yX8_trace ∈ gtbl := wG 1436 (by decide +kernel) (by decide +kernel)
abbrev mX8_count : mM := (yX8_count, cX8_count, 4, (some .int))
theorem kc_X8_count : Cond.code yX8_count cX8_count 4 (some .int) ∈ gtbl := wG 1441 (by decide +kernel) (by decide +kernel)
theorem ki_X8_count : Cond.instanceMethod yX8_count ∈ gtbl := wG 1439 (by decide +kernel) (by decide +kernel)
theorem kd_X8_count : yX8_count.cls = RX8 ∧ yX8_count.cls ≠ "java/lang/invoke/MethodHandle" ∧ yX8_count.cls ≠ "java/lang/invoke/VarHandle" ∧ (parseMethodDescriptor yX8_count.desc).map (fun d => d.parameters.length) = some 1 := by decide +kernel
theorem ks_X8_count : Cond.selects RX8 yX8_count yX8_count ∈ gtbl := wG 1440 (by decide +kernel) (by decide +kernel)
abbrev mX8_status : mM := (yX8_status, cX8_status, 1, (some .int))
theorem kc_X8_status : Cond.code yX8_status cX8_status 1 (some .int) ∈ gtbl := wG 1445 (by decide +kernel) (by decide +kernel)
theorem ki_X8_status : Cond.instanceMethod yX8_status ∈ gtbl := wG 1443 (by decide +kernel) (by decide +kernel)
theorem kd_X8_status : yX8_status.cls = RX8 ∧ yX8_status.cls ≠ "java/lang/invoke/MethodHandle" ∧ yX8_status.cls ≠ "java/lang/invoke/VarHandle" ∧ (parseMethodDescriptor yX8_status.desc).map (fun d => d.parameters.length) = some 0 := by decide +kernel
theorem ks_X8_status : Cond.selects RX8 yX8_status yX8_status ∈ gtbl := wG 1444 (by decide +kernel) (by decide +kernel)
abbrev mJ6_bitCount_0f7a4 : mM := (yJ6_bitCount_0f7a4, cJ6_bitCount_0f7a4, 1, (some .int))
theorem kc_J6_bitCount_0f7a4 : Cond.code yJ6_bitCount_0f7a4 cJ6_bitCount_0f7a4 1 (some .int) ∈ gtbl := wG 755 (by decide +kernel) (by decide +kernel)
theorem kt_J6_bitCount_0f7a4 : Cond.static yJ6_bitCount_0f7a4 ∈ gtbl := wG 754 (by decide +kernel) (by decide +kernel)
theorem kd_J6_bitCount_0f7a4 : yJ6_bitCount_0f7a4.cls = RJ6 ∧ yJ6_bitCount_0f7a4.cls ≠ "java/lang/invoke/MethodHandle" ∧ yJ6_bitCount_0f7a4.cls ≠ "java/lang/invoke/VarHandle" ∧ (parseMethodDescriptor yJ6_bitCount_0f7a4.desc).map (fun d => d.parameters.length) = some 1 := by decide +kernel
abbrev mJ9_max_7cf53 : mM := (yJ9_max_7cf53, cJ9_max_7cf53, 2, (some .int))
theorem kc_J9_max_7cf53 : Cond.code yJ9_max_7cf53 cJ9_max_7cf53 2 (some .int) ∈ gtbl := wG 596 (by decide +kernel) (by decide +kernel)
theorem kt_J9_max_7cf53 : Cond.static yJ9_max_7cf53 ∈ gtbl := wG 595 (by decide +kernel) (by decide +kernel)
theorem kd_J9_max_7cf53 : yJ9_max_7cf53.cls = RJ9 ∧ yJ9_max_7cf53.cls ≠ "java/lang/invoke/MethodHandle" ∧ yJ9_max_7cf53.cls ≠ "java/lang/invoke/VarHandle" ∧ (parseMethodDescriptor yJ9_max_7cf53.desc).map (fun d => d.parameters.length) = some 2 := by decide +kernel
abbrev mJ9_max_f86c9 : mM := (yJ9_max_f86c9, cJ9_max_f86c9, 4, (some .long))
theorem kc_J9_max_f86c9 : Cond.code yJ9_max_f86c9 cJ9_max_f86c9 4 (some .long) ∈ gtbl := wG 821 (by decide +kernel) (by decide +kernel)
theorem kt_J9_max_f86c9 : Cond.static yJ9_max_f86c9 ∈ gtbl := wG 820 (by decide +kernel) (by decide +kernel)
theorem kd_J9_max_f86c9 : yJ9_max_f86c9.cls = RJ9 ∧ yJ9_max_f86c9.cls ≠ "java/lang/invoke/MethodHandle" ∧ yJ9_max_f86c9.cls ≠ "java/lang/invoke/VarHandle" ∧ (parseMethodDescriptor yJ9_max_f86c9.desc).map (fun d => d.parameters.length) = some 2 := by decide +kernel
abbrev mJ9_min_7cf53 : mM := (yJ9_min_7cf53, cJ9_min_7cf53, 2, (some .int))
theorem kc_J9_min_7cf53 : Cond.code yJ9_min_7cf53 cJ9_min_7cf53 2 (some .int) ∈ gtbl := wG 726 (by decide +kernel) (by decide +kernel)
theorem kt_J9_min_7cf53 : Cond.static yJ9_min_7cf53 ∈ gtbl := wG 725 (by decide +kernel) (by decide +kernel)
theorem kd_J9_min_7cf53 : yJ9_min_7cf53.cls = RJ9 ∧ yJ9_min_7cf53.cls ≠ "java/lang/invoke/MethodHandle" ∧ yJ9_min_7cf53.cls ≠ "java/lang/invoke/VarHandle" ∧ (parseMethodDescriptor yJ9_min_7cf53.desc).map (fun d => d.parameters.length) = some 2 := by decide +kernel
abbrev mJ9_min_f86c9 : mM := (yJ9_min_f86c9, cJ9_min_f86c9, 4, (some .long))
theorem kc_J9_min_f86c9 : Cond.code yJ9_min_f86c9 cJ9_min_f86c9 4 (some .long) ∈ gtbl := wG 858 (by decide +kernel) (by decide +kernel)
theorem kt_J9_min_f86c9 : Cond.static yJ9_min_f86c9 ∈ gtbl := wG 857 (by decide +kernel) (by decide +kernel)
theorem kd_J9_min_f86c9 : yJ9_min_f86c9.cls = RJ9 ∧ yJ9_min_f86c9.cls ≠ "java/lang/invoke/MethodHandle" ∧ yJ9_min_f86c9.cls ≠ "java/lang/invoke/VarHandle" ∧ (parseMethodDescriptor yJ9_min_f86c9.desc).map (fun d => d.parameters.length) = some 2 := by decide +kernel
abbrev mJ7_fill_d0a16 : mM := (yJ7_fill_d0a16, cJ7_fill_d0a16, 5, none)
theorem kc_J7_fill_d0a16 : Cond.code yJ7_fill_d0a16 cJ7_fill_d0a16 5 none ∈ gtbl := wG 817 (by decide +kernel) (by decide +kernel)
theorem kt_J7_fill_d0a16 : Cond.static yJ7_fill_d0a16 ∈ gtbl := wG 816 (by decide +kernel) (by decide +kernel)
theorem kd_J7_fill_d0a16 : yJ7_fill_d0a16.cls = RJ7 ∧ yJ7_fill_d0a16.cls ≠ "java/lang/invoke/MethodHandle" ∧ yJ7_fill_d0a16.cls ≠ "java/lang/invoke/VarHandle" ∧ (parseMethodDescriptor yJ7_fill_d0a16.desc).map (fun d => d.parameters.length) = some 2 := by decide +kernel
abbrev mJ7_fill_53178 : mM := (yJ7_fill_53178, cJ7_fill_53178, 4, none)
theorem kc_J7_fill_53178 : Cond.code yJ7_fill_53178 cJ7_fill_53178 4 none ∈ gtbl := wG 112 (by decide +kernel) (by decide +kernel)
theorem kt_J7_fill_53178 : Cond.static yJ7_fill_53178 ∈ gtbl := wG 111 (by decide +kernel) (by decide +kernel)
theorem kd_J7_fill_53178 : yJ7_fill_53178.cls = RJ7 ∧ yJ7_fill_53178.cls ≠ "java/lang/invoke/MethodHandle" ∧ yJ7_fill_53178.cls ≠ "java/lang/invoke/VarHandle" ∧ (parseMethodDescriptor yJ7_fill_53178.desc).map (fun d => d.parameters.length) = some 2 := by decide +kernel
theorem kn_RX0 : Cond.initialized RX0 ∈ gtbl := wG 86 (by decide +kernel) (by decide +kernel)
theorem kn_RX1 : Cond.initialized RX1 ∈ gtbl := wG 89 (by decide +kernel) (by decide +kernel)
theorem kn_RX2 : Cond.initialized RX2 ∈ gtbl := wG 85 (by decide +kernel) (by decide +kernel)
theorem kn_RX3 : Cond.initialized RX3 ∈ gtbl := wG 88 (by decide +kernel) (by decide +kernel)
theorem kn_RX4 : Cond.initialized RX4 ∈ gtbl := wG 82 (by decide +kernel) (by decide +kernel)
theorem kn_RX5 : Cond.initialized RX5 ∈ gtbl := wG 87 (by decide +kernel) (by decide +kernel)
theorem kn_RX6 : Cond.initialized RX6 ∈ gtbl := wG 84 (by decide +kernel) (by decide +kernel)
theorem kn_RX7 : Cond.initialized RX7 ∈ gtbl := wG 81 (by decide +kernel) (by decide +kernel)
theorem kn_RX8 : Cond.initialized RX8 ∈ gtbl := wG 90 (by decide +kernel) (by decide +kernel)
theorem kn_RJ6 : Cond.initialized RJ6 ∈ gtbl := wG 93 (by decide +kernel) (by decide +kernel)
theorem kn_RJ9 : Cond.initialized RJ9 ∈ gtbl := wG 92 (by decide +kernel) (by decide +kernel)
theorem kn_RJ10 : Cond.initialized RJ10 ∈ gtbl := wG 91 (by decide +kernel) (by decide +kernel)
theorem kn_RJ7 : Cond.initialized RJ7 ∈ gtbl := wG 83 (by decide +kernel) (by decide +kernel)
theorem kn_RL : Cond.initialized RL ∈ gtbl := wG 80 (by decide +kernel) (by decide +kernel)
