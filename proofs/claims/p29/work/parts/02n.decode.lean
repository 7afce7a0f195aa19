/-! ===== the methods ===== -/
def m_Audit_init : MM := ("KeyringCourt$Audit", prog_3_method_1_code, 1, none, [], "<init>", "()V", none)
def m_Flow_init : MM := ("KeyringCourt$Flow", prog_4_method_1_code, 1, none, [], "<init>", "()V", none)
def m_AC_init : MM := ("java/util/AbstractCollection", prog_27_method_1_code, 1, none, [], "<init>", "()V", none)
def m_AB_init : MM := ("java/util/AbstractList", prog_28_method_1_code, 1, none, [], "<init>", "()V", none)
def m_AL_init : MM := ("java/util/ArrayList", prog_29_method_2_code, 1, none, [], "<init>", "()V", none)
def m_Keyring_init : MM := ("KeyringCourt$Keyring", prog_6_method_1_code, 1, none, [], "<init>", "()V", none)
def m_Person_init : MM := ("KeyringCourt$Person", prog_7_method_1_code, 2, none, [], "<init>", "(I)V", none)
def m_Service_init : MM := ("KeyringCourt$Service", prog_9_method_1_code, 1, none, [], "<init>", "()V", none)
def m_K_init : MM := ("KeyringCourt", prog_1_method_1_code, 2, none, [], "<init>", "()V", none)
def m_M_init : MM := ("KeyringCourtModel", prog_14_method_1_code, 2, none, [], "<init>", "()V", none)
def m_K_isWithin : MM := ("KeyringCourt", prog_1_method_53_code, 3, (some FieldType.boolean), [], "isWithin", "(III)Z", none)
def m_K_requireArgument : MM := ("KeyringCourt", prog_1_method_57_code, 1, none, [], "requireArgument", "(Z)V", none)
def m_K_requireState : MM := ("KeyringCourt", prog_1_method_58_code, 1, none, [], "requireState", "(Z)V", none)
def m_Keyring_isDueToSign : MM := ("KeyringCourt$Keyring", prog_6_method_4_code, 2, (some FieldType.boolean), [], "isDueToSign", "(I)Z", none)
def m_Keyring_putWaitingToSign : MM := ("KeyringCourt$Keyring", prog_6_method_5_code, 2, none, [], "putWaitingToSign", "(I)V", none)
def m_Audit_totalWith : MM := ("KeyringCourt$Audit", prog_3_method_6_code, 5, (some FieldType.int), [], "totalWith", "(II)I", none)
def m_Audit_write : MM := ("KeyringCourt$Audit", prog_3_method_2_code, 4, none, [], "write", "(III)V", none)
def m_Keyring_retire : MM := ("KeyringCourt$Keyring", prog_6_method_7_code, 3, none, [], "retire", "(I)V", none)
def m_K_turnKeys : MM := ("KeyringCourt", prog_1_method_69_code, 1, none, [], "turnKeys", "()V", none)
def m_AL_size : MM := ("java/util/ArrayList", prog_29_method_8_code, 1, (some FieldType.int), [], "size", "()I", none)
def m_PR_checkIndex : MM := ("jdk/internal/util/Preconditions", prog_37_method_11_code, 3, (some FieldType.int), [], "checkIndex", "(IILjava/util/function/BiFunction;)I", none)
def m_OB_checkIndex : MM := ("java/util/Objects", prog_33_method_17_code, 2, (some FieldType.int), [], "checkIndex", "(II)I", none)
def m_AL_elementData : MM := ("java/util/ArrayList", prog_29_method_18_code, 2, (some (FieldType.object "java/lang/Object")), [], "elementData", "(I)Ljava/lang/Object;", none)
def m_AL_get : MM := ("java/util/ArrayList", prog_29_method_20_code, 2, (some (FieldType.object "java/lang/Object")), [], "get", "(I)Ljava/lang/Object;", none)
def m_Session_isOldAt : MM := ("KeyringCourt$Session", prog_10_method_3_code, 2, (some FieldType.boolean), [], "isOldAt", "(I)Z", none)
def m_K_markEnded : MM := ("KeyringCourt", prog_1_method_80_code, 2, none, [], "markEnded", "(LKeyringCourt$Session;)V", none)
def m_K_findService : MM := ("KeyringCourt", prog_1_method_63_code, 3, (some (FieldType.object "KeyringCourt$Service")), [], "findService", "(I)LKeyringCourt$Service;", none)
def m_K_isIn : MM := ("KeyringCourt", prog_1_method_55_code, 2, (some FieldType.boolean), [], "isIn", "(II)Z", none)
def m_Grant_tell : MM := ("KeyringCourt$Grant", prog_5_method_2_code, 2, (some FieldType.boolean), [], "tell", "(I)Z", none)
def m_K_endFamily : MM := ("KeyringCourt", prog_1_method_83_code, 3, none, [], "endFamily", "(LKeyringCourt$Grant;)V", none)
def m_K_endFamiliesOf : MM := ("KeyringCourt", prog_1_method_82_code, 4, none, [], "endFamiliesOf", "(LKeyringCourt$Session;)V", none)
def m_K_endSession : MM := ("KeyringCourt", prog_1_method_79_code, 4, none, [], "endSession", "(LKeyringCourt$Session;)V", none)
def m_K_endOldSessions : MM := ("KeyringCourt", prog_1_method_70_code, 3, none, [], "endOldSessions", "()V", none)
def m_K_pass : MM := ("KeyringCourt", prog_1_method_2_code, 4, (some FieldType.int), [], "pass", "(I)I", none)
def m_W_pass : MM := ("KeyringCourtLaw", method_3_code, 4, (some FieldType.int), [(0, 9, 12, 13), (0, 9, 15, 15)], "pass", "(LKeyringCourt;I[J)I", none)
def m_M_isIn : MM := ("KeyringCourtModel", prog_14_method_6_code, 3, (some FieldType.boolean), [], "isIn", "(III)Z", none)
def m_M_mayBoth : MM := ("KeyringCourtModel", prog_14_method_4_code, 3, (some FieldType.boolean), [], "mayBoth", "(ZZ)Z", none)
def m_M_write : MM := ("KeyringCourtModel", prog_14_method_14_code, 3, none, [], "write", "(II)V", none)
def m_M_hears : MM := ("KeyringCourtModel", prog_14_method_19_code, 5, (some FieldType.boolean), [], "hears", "(II)Z", none)
def m_M_endFamily : MM := ("KeyringCourtModel", prog_14_method_20_code, 3, none, [], "endFamily", "(I)V", none)
def m_M_endFamiliesOf : MM := ("KeyringCourtModel", prog_14_method_21_code, 3, none, [], "endFamiliesOf", "(I)V", none)
def m_M_endSession : MM := ("KeyringCourtModel", prog_14_method_22_code, 4, (some FieldType.int), [], "endSession", "(I)I", none)
def m_M_pass : MM := ("KeyringCourtModel", prog_14_method_24_code, 7, (some FieldType.int), [], "pass", "(I)I", none)
def m_K_findPerson : MM := ("KeyringCourt", prog_1_method_62_code, 3, (some (FieldType.object "KeyringCourt$Person")), [], "findPerson", "(I)LKeyringCourt$Person;", none)
def m_K_isFactor : MM := ("KeyringCourt", prog_1_method_54_code, 1, (some FieldType.boolean), [], "isFactor", "(I)Z", none)
def m_Person_stateOf : MM := ("KeyringCourt$Person", prog_7_method_2_code, 2, (some FieldType.int), [], "stateOf", "(I)I", none)
def m_Person_makeReady : MM := ("KeyringCourt$Person", prog_7_method_3_code, 2, none, [], "makeReady", "(I)V", none)
def m_K_enroll : MM := ("KeyringCourt", prog_1_method_3_code, 5, (some FieldType.int), [], "enroll", "(II)I", none)
def m_W_enroll : MM := ("KeyringCourtLaw", method_4_code, 5, (some FieldType.int), [(0, 10, 13, 21), (0, 10, 17, 13)], "enroll", "(LKeyringCourt;II[J)I", none)
def m_M_isSix : MM := ("KeyringCourtModel", prog_14_method_7_code, 1, (some FieldType.boolean), [], "isSix", "(I)Z", none)
def m_M_isFactor : MM := ("KeyringCourtModel", prog_14_method_8_code, 1, (some FieldType.boolean), [], "isFactor", "(I)Z", none)
def m_M_ready : MM := ("KeyringCourtModel", prog_14_method_25_code, 3, none, [], "ready", "(II)V", none)
def m_M_enroll : MM := ("KeyringCourtModel", prog_14_method_26_code, 4, (some FieldType.int), [], "enroll", "(II)I", none)
def m_K_factor : MM := ("KeyringCourt", prog_1_method_4_code, 4, (some FieldType.int), [], "factor", "(II)I", none)
def m_W_factor : MM := ("KeyringCourtLaw", method_5_code, 5, (some FieldType.int), [(0, 10, 13, 21), (0, 10, 17, 13)], "factor", "(LKeyringCourt;II[J)I", none)
def m_M_factor : MM := ("KeyringCourtModel", prog_14_method_27_code, 3, (some FieldType.int), [], "factor", "(II)I", none)
def m_K_mostFirst : MM := ("KeyringCourt", prog_1_method_61_code, 1, (some FieldType.int), [], "mostFirst", "(I)I", none)
def m_K_isNext : MM := ("KeyringCourt", prog_1_method_60_code, 1, (some FieldType.boolean), [], "isNext", "(I)Z", none)
def m_K_isStep : MM := ("KeyringCourt", prog_1_method_59_code, 5, (some FieldType.boolean), [], "isStep", "(IIIII)Z", none)
def m_Flow_add : MM := ("KeyringCourt$Flow", prog_4_method_2_code, 6, (some FieldType.int), [], "add", "(IIIII)I", none)
def m_K_step : MM := ("KeyringCourt", prog_1_method_5_code, 6, (some FieldType.int), [], "step", "(IIIII)I", none)
def m_W_step : MM := ("KeyringCourtLaw", method_6_code, 8, (some FieldType.int), [(0, 16, 19, 13), (0, 16, 23, 15)], "step", "(LKeyringCourt;IIIII[J)I", none)
def m_M_isNext : MM := ("KeyringCourtModel", prog_14_method_31_code, 1, (some FieldType.boolean), [], "isNext", "(I)Z", none)
def m_M_step : MM := ("KeyringCourtModel", prog_14_method_32_code, 9, (some FieldType.int), [], "step", "(IIIII)I", none)
def m_K_clear : MM := ("KeyringCourt", prog_1_method_6_code, 2, (some FieldType.int), [], "clear", "()I", none)
def m_M_clear : MM := ("KeyringCourtModel", prog_14_method_33_code, 2, (some FieldType.int), [], "clear", "()I", none)
def m_Flow_isThere : MM := ("KeyringCourt$Flow", prog_4_method_3_code, 2, (some FieldType.boolean), [], "isThere", "(I)Z", none)
def m_Flow_kindOf : MM := ("KeyringCourt$Flow", prog_4_method_4_code, 2, (some FieldType.int), [], "kindOf", "(I)I", none)
def m_Flow_nextOf : MM := ("KeyringCourt$Flow", prog_4_method_7_code, 3, (some FieldType.int), [], "nextOf", "(IZ)I", none)
def m_Flow_isNoneOrThere : MM := ("KeyringCourt$Flow", prog_4_method_10_code, 2, (some FieldType.boolean), [], "isNoneOrThere", "(I)Z", none)
def m_Flow_hasAllNextSteps : MM := ("KeyringCourt$Flow", prog_4_method_9_code, 2, (some FieldType.boolean), [], "hasAllNextSteps", "()Z", none)
def m_Flow_isTest : MM := ("KeyringCourt$Flow", prog_4_method_8_code, 2, (some FieldType.boolean), [], "isTest", "(I)Z", none)
def m_Flow_leaves : MM := ("KeyringCourt$Flow", prog_4_method_12_code, 2, (some FieldType.boolean), [], "leaves", "(II)Z", none)
def m_Flow_hasLoopOfTests : MM := ("KeyringCourt$Flow", prog_4_method_11_code, 4, (some FieldType.boolean), [], "hasLoopOfTests", "()Z", none)
def m_AS_newLength : MM := ("jdk/internal/util/ArraysSupport", prog_36_method_27_code, 4, (some FieldType.int), [], "newLength", "(III)I", none)
def m_AR_copyOf2 : MM := ("java/util/Arrays", prog_30_method_120_code, 4, (some (FieldType.array (FieldType.object "java/lang/Object"))), [], "copyOf", "([Ljava/lang/Object;ILjava/lang/Class;)[Ljava/lang/Object;", none)
def m_AR_copyOf1 : MM := ("java/util/Arrays", prog_30_method_119_code, 2, (some (FieldType.array (FieldType.object "java/lang/Object"))), [], "copyOf", "([Ljava/lang/Object;I)[Ljava/lang/Object;", none)
def m_AL_grow2 : MM := ("java/util/ArrayList", prog_29_method_6_code, 4, (some (FieldType.array (FieldType.object "java/lang/Object"))), [], "grow", "(I)[Ljava/lang/Object;", none)
def m_AL_grow1 : MM := ("java/util/ArrayList", prog_29_method_7_code, 1, (some (FieldType.array (FieldType.object "java/lang/Object"))), [], "grow", "()[Ljava/lang/Object;", none)
def m_AL_add2 : MM := ("java/util/ArrayList", prog_29_method_24_code, 4, none, [], "add", "(Ljava/lang/Object;[Ljava/lang/Object;I)V", none)
def m_AL_add1 : MM := ("java/util/ArrayList", prog_29_method_25_code, 2, (some FieldType.boolean), [], "add", "(Ljava/lang/Object;)Z", none)
def m_K_publish : MM := ("KeyringCourt", prog_1_method_7_code, 1, (some FieldType.int), [], "publish", "()I", none)
def m_W_publish : MM := ("KeyringCourtLaw", method_7_code, 3, (some FieldType.int), [(0, 8, 11, 15)], "publish", "(LKeyringCourt;[J)I", none)
def m_M_isTest : MM := ("KeyringCourtModel", prog_14_method_34_code, 1, (some FieldType.boolean), [], "isTest", "(I)Z", none)
def m_M_circles : MM := ("KeyringCourtModel", prog_14_method_35_code, 8, (some FieldType.boolean), [], "circles", "(I)Z", none)
def m_M_may : MM := ("KeyringCourtModel", prog_14_method_3_code, 2, (some FieldType.boolean), [], "may", "(Z)Z", none)
def m_M_publish : MM := ("KeyringCourtModel", prog_14_method_36_code, 4, (some FieldType.int), [], "publish", "()I", none)
def m_K_requireIndex : MM := ("KeyringCourt", prog_1_method_56_code, 2, none, [], "requireIndex", "(II)V", none)
def m_Flow_firstOf : MM := ("KeyringCourt$Flow", prog_4_method_5_code, 2, (some FieldType.int), [], "firstOf", "(I)I", none)
def m_Shown_weightOf : MM := ("KeyringCourt$Shown", prog_11_method_3_code, 1, (some FieldType.int), [], "weightOf", "(I)I", none)
def m_Shown_levelOfSet : MM := ("KeyringCourt$Shown", prog_11_method_4_code, 3, (some FieldType.int), [], "levelOfSet", "(I)I", none)
def m_Flow_setBehindYes : MM := ("KeyringCourt$Flow", prog_4_method_15_code, 3, (some FieldType.int), [], "setBehindYes", "(II)I", none)
def m_Flow_reach : MM := ("KeyringCourt$Flow", prog_4_method_17_code, 3, (some FieldType.boolean), [], "reach", "(II[I)Z", none)
def m_Flow_setBehindNo : MM := ("KeyringCourt$Flow", prog_4_method_16_code, 3, (some FieldType.int), [], "setBehindNo", "(II)I", none)
def m_Flow_spread : MM := ("KeyringCourt$Flow", prog_4_method_14_code, 5, (some FieldType.boolean), [], "spread", "(I[I)Z", none)
def m_Flow_weaker : MM := ("KeyringCourt$Flow", prog_4_method_19_code, 2, (some FieldType.int), [], "weaker", "(II)I", none)
def m_Flow_leastLevel : MM := ("KeyringCourt$Flow", prog_4_method_18_code, 3, (some FieldType.int), [], "leastLevel", "(I)I", none)
def m_Flow_weakestLevel : MM := ("KeyringCourt$Flow", prog_4_method_13_code, 5, (some FieldType.int), [], "weakestLevel", "()I", none)
def m_K_weakest : MM := ("KeyringCourt", prog_1_method_8_code, 2, (some FieldType.int), [], "weakest", "(I)I", none)
def m_W_weakest : MM := ("KeyringCourtLaw", method_8_code, 4, (some FieldType.int), [(0, 9, 12, 21)], "weakest", "(LKeyringCourt;I[J)I", none)
def m_M_levelOf : MM := ("KeyringCourtModel", prog_14_method_37_code, 1, (some FieldType.int), [], "levelOf", "(I)I", none)
def m_M_meet : MM := ("KeyringCourtModel", prog_14_method_38_code, 3, none, [], "meet", "(II)V", none)
def m_M_weakest : MM := ("KeyringCourtModel", prog_14_method_39_code, 8, (some FieldType.int), [], "weakest", "(I)I", none)
def m_K_points : MM := ("KeyringCourt", prog_1_method_9_code, 6, (some FieldType.int), [], "points", "(IIZ)I", none)
def m_W_points : MM := ("KeyringCourtLaw", method_9_code, 6, (some FieldType.int), [(0, 12, 15, 13)], "points", "(LKeyringCourt;IIZ[J)I", none)
def m_M_points : MM := ("KeyringCourtModel", prog_14_method_43_code, 5, (some FieldType.int), [], "points", "(IIZ)I", none)
def m_AL_isEmpty : MM := ("java/util/ArrayList", prog_29_method_9_code, 1, (some FieldType.boolean), [], "isEmpty", "()Z", none)
def m_Shown_init1 : MM := ("KeyringCourt$Shown", prog_11_method_1_code, 1, none, [], "<init>", "()V", none)
def m_Attempt_init : MM := ("KeyringCourt$Attempt", prog_2_method_1_code, 5, none, [], "<init>", "(LKeyringCourt$Person;IILKeyringCourt$Flow;)V", none)
def m_K_pointsOf : MM := ("KeyringCourt", prog_1_method_77_code, 3, (some FieldType.int), [], "pointsOf", "(IZ)I", none)
def m_Person_wrongsSince : MM := ("KeyringCourt$Person", prog_7_method_8_code, 3, (some FieldType.int), [], "wrongsSince", "(I)I", none)
def m_K_riskOf : MM := ("KeyringCourt", prog_1_method_76_code, 5, (some FieldType.int), [], "riskOf", "(LKeyringCourt$Attempt;Z)I", none)
def m_Shown_levelSince : MM := ("KeyringCourt$Shown", prog_11_method_6_code, 4, (some FieldType.int), [], "levelSince", "(I)I", none)
def m_K_holds : MM := ("KeyringCourt", prog_1_method_75_code, 4, (some FieldType.boolean), [], "holds", "(LKeyringCourt$Attempt;I)Z", none)
def m_Attempt_waitAt : MM := ("KeyringCourt$Attempt", prog_2_method_2_code, 2, none, [], "waitAt", "(I)V", none)
def m_Shown_init2 : MM := ("KeyringCourt$Shown", prog_11_method_2_code, 3, none, [], "<init>", "(LKeyringCourt$Shown;)V", none)
def m_Session_init : MM := ("KeyringCourt$Session", prog_10_method_1_code, 6, none, [], "<init>", "(ILKeyringCourt$Person;LKeyringCourt$Session;LKeyringCourt$Shown;I)V", none)
def m_K_beginSession : MM := ("KeyringCourt", prog_1_method_78_code, 5, (some FieldType.int), [], "beginSession", "(LKeyringCourt$Person;LKeyringCourt$Session;LKeyringCourt$Shown;)I", none)
def m_Person_learn : MM := ("KeyringCourt$Person", prog_7_method_9_code, 3, none, [], "learn", "(II)V", none)
def m_K_grant : MM := ("KeyringCourt", prog_1_method_74_code, 2, none, [], "grant", "(LKeyringCourt$Attempt;)V", none)
def m_K_goOn : MM := ("KeyringCourt", prog_1_method_73_code, 5, none, [], "goOn", "(LKeyringCourt$Attempt;I)V", none)
def m_K_begin : MM := ("KeyringCourt", prog_1_method_10_code, 6, (some FieldType.int), [], "begin", "(III)I", none)
def m_W_begin : MM := ("KeyringCourtLaw", method_10_code, 6, (some FieldType.int), [(0, 12, 15, 21), (0, 12, 19, 15)], "begin", "(LKeyringCourt;III[J)I", none)
def m_M_wrongs : MM := ("KeyringCourtModel", prog_14_method_40_code, 4, (some FieldType.int), [], "wrongs", "(I)I", none)
def m_M_pointsOf : MM := ("KeyringCourtModel", prog_14_method_41_code, 3, (some FieldType.int), [], "pointsOf", "(IZ)I", none)
def m_M_riskOf : MM := ("KeyringCourtModel", prog_14_method_42_code, 5, (some FieldType.int), [], "riskOf", "(IZ)I", none)
def m_M_shownIn : MM := ("KeyringCourtModel", prog_14_method_44_code, 4, (some FieldType.int), [], "shownIn", "(I)I", none)
def m_M_holds : MM := ("KeyringCourtModel", prog_14_method_45_code, 4, (some FieldType.boolean), [], "holds", "(II)Z", none)
def m_M_newSession : MM := ("KeyringCourtModel", prog_14_method_46_code, 5, (some FieldType.int), [], "newSession", "(II)I", none)
def m_M_grant : MM := ("KeyringCourtModel", prog_14_method_47_code, 4, none, [], "grant", "(I)V", none)
def m_M_go : MM := ("KeyringCourtModel", prog_14_method_48_code, 5, none, [], "go", "(II)V", none)
def m_M_begin : MM := ("KeyringCourtModel", prog_14_method_49_code, 7, (some FieldType.int), [], "begin", "(III)I", none)
def m_K_findAttempt : MM := ("KeyringCourt", prog_1_method_64_code, 2, (some (FieldType.object "KeyringCourt$Attempt")), [], "findAttempt", "(I)LKeyringCourt$Attempt;", none)
def m_Person_takes : MM := ("KeyringCourt$Person", prog_7_method_6_code, 4, (some FieldType.boolean), [], "takes", "(IZI)Z", none)
def m_Person_noteWrong : MM := ("KeyringCourt$Person", prog_7_method_7_code, 2, none, [], "noteWrong", "(I)V", none)
def m_K_isAnsweredRight : MM := ("KeyringCourt", prog_1_method_71_code, 7, (some FieldType.boolean), [], "isAnsweredRight", "(LKeyringCourt$Person;IZI)Z", none)
def m_Shown_show : MM := ("KeyringCourt$Shown", prog_11_method_5_code, 3, none, [], "show", "(II)V", none)
def m_Flow_secondOf : MM := ("KeyringCourt$Flow", prog_4_method_6_code, 2, (some FieldType.int), [], "secondOf", "(I)I", none)
def m_K_takeAnswer : MM := ("KeyringCourt", prog_1_method_72_code, 6, none, [], "takeAnswer", "(LKeyringCourt$Attempt;ZI)V", none)
def m_K_answer : MM := ("KeyringCourt", prog_1_method_11_code, 5, (some FieldType.int), [], "answer", "(IZI)I", none)
def m_W_answer : MM := ("KeyringCourtLaw", method_11_code, 6, (some FieldType.int), [(0, 12, 15, 21), (0, 12, 19, 13), (0, 12, 23, 15)], "answer", "(LKeyringCourt;IZI[J)I", none)
def m_M_isAttempt : MM := ("KeyringCourtModel", prog_14_method_10_code, 2, (some FieldType.boolean), [], "isAttempt", "(I)Z", none)
def m_M_mayAll : MM := ("KeyringCourtModel", prog_14_method_5_code, 4, (some FieldType.boolean), [], "mayAll", "(ZZZ)Z", none)
def m_M_suspend : MM := ("KeyringCourtModel", prog_14_method_29_code, 3, none, [], "suspend", "(II)V", none)
def m_M_answers : MM := ("KeyringCourtModel", prog_14_method_30_code, 7, (some FieldType.boolean), [], "answers", "(IIZI)Z", none)
def m_M_answer : MM := ("KeyringCourtModel", prog_14_method_50_code, 6, (some FieldType.int), [], "answer", "(IZI)I", none)
def m_K_state : MM := ("KeyringCourt", prog_1_method_12_code, 2, (some FieldType.int), [], "state", "(I)I", none)
def m_W_state : MM := ("KeyringCourtLaw", method_12_code, 4, (some FieldType.int), [(0, 9, 12, 21)], "state", "(LKeyringCourt;I[J)I", none)
def m_M_state : MM := ("KeyringCourtModel", prog_14_method_51_code, 2, (some FieldType.int), [], "state", "(I)I", none)
def m_K_asked : MM := ("KeyringCourt", prog_1_method_13_code, 3, (some FieldType.int), [], "asked", "(I)I", none)
def m_W_asked : MM := ("KeyringCourtLaw", method_13_code, 4, (some FieldType.int), [(0, 9, 12, 21)], "asked", "(LKeyringCourt;I[J)I", none)
def m_M_asked : MM := ("KeyringCourtModel", prog_14_method_52_code, 2, (some FieldType.int), [], "asked", "(I)I", none)
def m_K_sessionOf : MM := ("KeyringCourt", prog_1_method_14_code, 2, (some FieldType.int), [], "sessionOf", "(I)I", none)
def m_W_sessionOf : MM := ("KeyringCourtLaw", method_14_code, 4, (some FieldType.int), [(0, 9, 12, 21)], "sessionOf", "(LKeyringCourt;I[J)I", none)
def m_M_sessionOf : MM := ("KeyringCourtModel", prog_14_method_53_code, 2, (some FieldType.int), [], "sessionOf", "(I)I", none)
def m_K_risk : MM := ("KeyringCourt", prog_1_method_15_code, 2, (some FieldType.int), [], "risk", "(I)I", none)
def m_W_risk : MM := ("KeyringCourtLaw", method_15_code, 4, (some FieldType.int), [(0, 9, 12, 21)], "risk", "(LKeyringCourt;I[J)I", none)
def m_M_risk : MM := ("KeyringCourtModel", prog_14_method_54_code, 2, (some FieldType.int), [], "risk", "(I)I", none)
def m_K_trialRisk : MM := ("KeyringCourt", prog_1_method_16_code, 2, (some FieldType.int), [], "trialRisk", "(I)I", none)
def m_W_trialRisk : MM := ("KeyringCourtLaw", method_16_code, 4, (some FieldType.int), [(0, 9, 12, 21)], "trialRisk", "(LKeyringCourt;I[J)I", none)
def m_M_trialRisk : MM := ("KeyringCourtModel", prog_14_method_55_code, 2, (some FieldType.int), [], "trialRisk", "(I)I", none)
def m_K_sessions : MM := ("KeyringCourt", prog_1_method_17_code, 1, (some FieldType.int), [], "sessions", "()I", none)
def m_M_sessions : MM := ("KeyringCourtModel", prog_14_method_56_code, 1, (some FieldType.int), [], "sessions", "()I", none)
def m_K_findSession : MM := ("KeyringCourt", prog_1_method_65_code, 2, (some (FieldType.object "KeyringCourt$Session")), [], "findSession", "(I)LKeyringCourt$Session;", none)
def m_K_isLive : MM := ("KeyringCourt", prog_1_method_18_code, 2, (some FieldType.boolean), [], "isLive", "(I)Z", none)
def m_W_isLive : MM := ("KeyringCourtLaw", method_17_code, 4, (some FieldType.int), [(0, 16, 19, 21)], "isLive", "(LKeyringCourt;I[J)I", none)
def m_M_isSession : MM := ("KeyringCourtModel", prog_14_method_11_code, 2, (some FieldType.boolean), [], "isSession", "(I)Z", none)
def m_M_isLive : MM := ("KeyringCourtModel", prog_14_method_57_code, 2, (some FieldType.boolean), [], "isLive", "(I)Z", none)
def m_Audit_entryAt : MM := ("KeyringCourt$Audit", prog_3_method_3_code, 2, (some FieldType.int), [], "entryAt", "(I)I", none)
def m_Audit_has : MM := ("KeyringCourt$Audit", prog_3_method_4_code, 4, (some FieldType.boolean), [], "has", "(II)Z", none)
def m_K_isLiveByAudit : MM := ("KeyringCourt", prog_1_method_19_code, 2, (some FieldType.boolean), [], "isLiveByAudit", "(I)Z", none)
def m_W_isLiveByAudit : MM := ("KeyringCourtLaw", method_18_code, 4, (some FieldType.int), [(0, 16, 19, 21)], "isLiveByAudit", "(LKeyringCourt;I[J)I", none)
def m_M_isLiveByAudit : MM := ("KeyringCourtModel", prog_14_method_58_code, 4, (some FieldType.boolean), [], "isLiveByAudit", "(I)Z", none)
def m_Session_levelAt : MM := ("KeyringCourt$Session", prog_10_method_2_code, 2, (some FieldType.int), [], "levelAt", "(I)I", none)
def m_K_level : MM := ("KeyringCourt", prog_1_method_20_code, 2, (some FieldType.int), [], "level", "(I)I", none)
def m_W_level : MM := ("KeyringCourtLaw", method_19_code, 4, (some FieldType.int), [(0, 9, 12, 21)], "level", "(LKeyringCourt;I[J)I", none)
def m_M_levelNow : MM := ("KeyringCourtModel", prog_14_method_59_code, 5, (some FieldType.int), [], "levelNow", "(I)I", none)
def m_M_level : MM := ("KeyringCourtModel", prog_14_method_60_code, 2, (some FieldType.int), [], "level", "(I)I", none)
def m_K_stepUp : MM := ("KeyringCourt", prog_1_method_21_code, 6, (some FieldType.int), [], "stepUp", "(IIZI)I", none)
def m_W_stepUp : MM := ("KeyringCourtLaw", method_20_code, 7, (some FieldType.int), [(0, 14, 17, 21), (0, 14, 21, 13), (0, 14, 25, 15)], "stepUp", "(LKeyringCourt;IIZI[J)I", none)
def m_M_stepUp : MM := ("KeyringCourtModel", prog_14_method_61_code, 6, (some FieldType.int), [], "stepUp", "(IIZI)I", none)
def m_K_signOut : MM := ("KeyringCourt", prog_1_method_22_code, 4, (some FieldType.int), [], "signOut", "(I)I", none)
def m_W_signOut : MM := ("KeyringCourtLaw", method_21_code, 4, (some FieldType.int), [(0, 9, 12, 21), (0, 9, 15, 15)], "signOut", "(LKeyringCourt;I[J)I", none)
def m_M_signOut : MM := ("KeyringCourtModel", prog_14_method_62_code, 3, (some FieldType.int), [], "signOut", "(I)I", none)
def m_K_helper : MM := ("KeyringCourt", prog_1_method_23_code, 3, (some FieldType.boolean), [], "helper", "(I)Z", none)
def m_W_helper : MM := ("KeyringCourtLaw", method_22_code, 4, (some FieldType.int), [(0, 16, 19, 21)], "helper", "(LKeyringCourt;I[J)I", none)
def m_M_helper : MM := ("KeyringCourtModel", prog_14_method_63_code, 2, (some FieldType.boolean), [], "helper", "(I)Z", none)
def m_K_act : MM := ("KeyringCourt", prog_1_method_24_code, 5, (some FieldType.int), [], "act", "(II)I", none)
def m_W_act : MM := ("KeyringCourtLaw", method_23_code, 5, (some FieldType.int), [(0, 10, 13, 21), (0, 10, 17, 15)], "act", "(LKeyringCourt;II[J)I", none)
def m_M_act : MM := ("KeyringCourtModel", prog_14_method_64_code, 7, (some FieldType.int), [], "act", "(II)I", none)
def m_K_consent : MM := ("KeyringCourt", prog_1_method_25_code, 5, (some FieldType.int), [], "consent", "(III)I", none)
def m_W_consent : MM := ("KeyringCourtLaw", method_24_code, 6, (some FieldType.int), [(0, 12, 15, 21), (0, 12, 19, 13)], "consent", "(LKeyringCourt;III[J)I", none)
def m_M_isService : MM := ("KeyringCourtModel", prog_14_method_9_code, 1, (some FieldType.boolean), [], "isService", "(I)Z", none)
def m_M_consent : MM := ("KeyringCourtModel", prog_14_method_65_code, 6, (some FieldType.int), [], "consent", "(III)I", none)
def m_K_withdraw : MM := ("KeyringCourt", prog_1_method_26_code, 7, (some FieldType.int), [], "withdraw", "(II)I", none)
def m_W_withdraw : MM := ("KeyringCourtLaw", method_25_code, 5, (some FieldType.int), [(0, 10, 13, 21)], "withdraw", "(LKeyringCourt;II[J)I", none)
def m_M_withdraw : MM := ("KeyringCourtModel", prog_14_method_66_code, 6, (some FieldType.int), [], "withdraw", "(II)I", none)
def m_K_need : MM := ("KeyringCourt", prog_1_method_27_code, 5, (some FieldType.int), [], "need", "(II)I", none)
def m_W_need : MM := ("KeyringCourtLaw", method_26_code, 5, (some FieldType.int), [(0, 10, 13, 21), (0, 10, 17, 13)], "need", "(LKeyringCourt;II[J)I", none)
def m_M_need : MM := ("KeyringCourtModel", prog_14_method_67_code, 4, (some FieldType.int), [], "need", "(II)I", none)
def m_K_consentedTo : MM := ("KeyringCourt", prog_1_method_85_code, 3, (some FieldType.int), [], "consentedTo", "(LKeyringCourt$Person;I)I", none)
def m_Grant_init : MM := ("KeyringCourt$Grant", prog_5_method_1_code, 6, none, [], "<init>", "(LKeyringCourt$Session;IIII)V", none)
def m_K_authorize : MM := ("KeyringCourt", prog_1_method_28_code, 7, (some FieldType.int), [], "authorize", "(IIII)I", none)
def m_W_authorize : MM := ("KeyringCourtLaw", method_27_code, 7, (some FieldType.int), [(0, 14, 17, 21), (0, 14, 21, 13), (0, 14, 25, 15)], "authorize", "(LKeyringCourt;IIII[J)I", none)
def m_M_authorize : MM := ("KeyringCourtModel", prog_14_method_68_code, 7, (some FieldType.int), [], "authorize", "(IIII)I", none)
def m_Token_init : MM := ("KeyringCourt$Token", prog_12_method_1_code, 8, none, [], "<init>", "(LKeyringCourt$Grant;IIIIII)V", none)
def m_K_addToken : MM := ("KeyringCourt", prog_1_method_89_code, 2, none, [], "addToken", "(LKeyringCourt$Token;)V", none)
def m_K_addFirstHandToken : MM := ("KeyringCourt", prog_1_method_88_code, 2, none, [], "addFirstHandToken", "(LKeyringCourt$Grant;)V", none)
def m_K_makeFamily : MM := ("KeyringCourt", prog_1_method_86_code, 2, none, [], "makeFamily", "(LKeyringCourt$Grant;)V", none)
def m_K_redeem : MM := ("KeyringCourt", prog_1_method_29_code, 3, (some FieldType.int), [], "redeem", "(I)I", none)
def m_W_redeem : MM := ("KeyringCourtLaw", method_28_code, 4, (some FieldType.int), [(0, 9, 12, 21), (0, 9, 15, 15)], "redeem", "(LKeyringCourt;I[J)I", none)
def m_M_newToken : MM := ("KeyringCourtModel", prog_14_method_69_code, 8, (some FieldType.int), [], "newToken", "(IIIIII)I", none)
def m_M_firstToken : MM := ("KeyringCourtModel", prog_14_method_70_code, 3, none, [], "firstToken", "(I)V", none)
def m_M_redeem : MM := ("KeyringCourtModel", prog_14_method_71_code, 5, (some FieldType.int), [], "redeem", "(I)I", none)
def m_M_thrown : MM := ("KeyringCourtModel", prog_14_method_2_code, 1, (some FieldType.int), [], "thrown", "()I", none)
def m_K_findFamily : MM := ("KeyringCourt", prog_1_method_66_code, 2, (some (FieldType.object "KeyringCourt$Grant")), [], "findFamily", "(I)LKeyringCourt$Grant;", none)
def m_K_rotate : MM := ("KeyringCourt", prog_1_method_87_code, 2, none, [], "rotate", "(LKeyringCourt$Grant;)V", none)
def m_K_refresh : MM := ("KeyringCourt", prog_1_method_30_code, 4, (some FieldType.int), [], "refresh", "(II)I", none)
def m_W_refresh : MM := ("KeyringCourtLaw", method_29_code, 5, (some FieldType.int), [(0, 10, 13, 21), (0, 10, 17, 13), (0, 10, 21, 15)], "refresh", "(LKeyringCourt;II[J)I", none)
def m_M_isFamily : MM := ("KeyringCourtModel", prog_14_method_12_code, 2, (some FieldType.boolean), [], "isFamily", "(I)Z", none)
def m_M_refresh : MM := ("KeyringCourtModel", prog_14_method_72_code, 7, (some FieldType.int), [], "refresh", "(II)I", none)
def m_K_isGood : MM := ("KeyringCourt", prog_1_method_31_code, 2, (some FieldType.boolean), [], "isGood", "(I)Z", none)
def m_W_isGood : MM := ("KeyringCourtLaw", method_30_code, 4, (some FieldType.int), [(0, 16, 19, 21)], "isGood", "(LKeyringCourt;I[J)I", none)
def m_M_isGood : MM := ("KeyringCourtModel", prog_14_method_73_code, 2, (some FieldType.boolean), [], "isGood", "(I)Z", none)
def m_K_tokenOf : MM := ("KeyringCourt", prog_1_method_32_code, 2, (some FieldType.int), [], "tokenOf", "(I)I", none)
def m_W_tokenOf : MM := ("KeyringCourtLaw", method_31_code, 4, (some FieldType.int), [(0, 9, 12, 21)], "tokenOf", "(LKeyringCourt;I[J)I", none)
def m_M_tokenOf : MM := ("KeyringCourtModel", prog_14_method_74_code, 2, (some FieldType.int), [], "tokenOf", "(I)I", none)
def m_K_findToken : MM := ("KeyringCourt", prog_1_method_67_code, 2, (some (FieldType.object "KeyringCourt$Token")), [], "findToken", "(I)LKeyringCourt$Token;", none)
def m_K_exchange : MM := ("KeyringCourt", prog_1_method_33_code, 6, (some FieldType.int), [], "exchange", "(III)I", none)
def m_W_exchange : MM := ("KeyringCourtLaw", method_32_code, 6, (some FieldType.int), [(0, 12, 15, 21), (0, 12, 19, 13), (0, 12, 23, 15)], "exchange", "(LKeyringCourt;III[J)I", none)
def m_M_isToken : MM := ("KeyringCourtModel", prog_14_method_13_code, 2, (some FieldType.boolean), [], "isToken", "(I)Z", none)
def m_M_exchange : MM := ("KeyringCourtModel", prog_14_method_75_code, 8, (some FieldType.int), [], "exchange", "(III)I", none)
def m_K_token : MM := ("KeyringCourt", prog_1_method_34_code, 3, (some FieldType.int), [], "token", "(I)I", none)
def m_W_token : MM := ("KeyringCourtLaw", method_33_code, 4, (some FieldType.int), [(0, 9, 12, 21)], "token", "(LKeyringCourt;I[J)I", none)
def m_M_token : MM := ("KeyringCourtModel", prog_14_method_76_code, 2, (some FieldType.int), [], "token", "(I)I", none)
def m_Keyring_publishNext : MM := ("KeyringCourt$Keyring", prog_6_method_3_code, 1, (some FieldType.int), [], "publishNext", "()I", none)
def m_Keyring_publishWaiting : MM := ("KeyringCourt$Keyring", prog_6_method_2_code, 2, (some FieldType.int), [], "publishWaiting", "(I)I", none)
def m_K_turn : MM := ("KeyringCourt", prog_1_method_35_code, 1, (some FieldType.int), [], "turn", "()I", none)
def m_W_turn : MM := ("KeyringCourtLaw", method_34_code, 3, (some FieldType.int), [(0, 8, 11, 15)], "turn", "(LKeyringCourt;[J)I", none)
def m_M_turn : MM := ("KeyringCourtModel", prog_14_method_77_code, 1, (some FieldType.int), [], "turn", "()I", none)
def m_Keyring_replaceSigner : MM := ("KeyringCourt$Keyring", prog_6_method_6_code, 1, none, [], "replaceSigner", "()V", none)
def m_K_emergency : MM := ("KeyringCourt", prog_1_method_36_code, 1, (some FieldType.int), [], "emergency", "()I", none)
def m_W_emergency : MM := ("KeyringCourtLaw", method_35_code, 3, (some FieldType.int), [(0, 8, 11, 15)], "emergency", "(LKeyringCourt;[J)I", none)
def m_M_emergency : MM := ("KeyringCourtModel", prog_14_method_78_code, 1, (some FieldType.int), [], "emergency", "()I", none)
def m_K_signing : MM := ("KeyringCourt", prog_1_method_37_code, 1, (some FieldType.int), [], "signing", "()I", none)
def m_M_signing : MM := ("KeyringCourtModel", prog_14_method_79_code, 1, (some FieldType.int), [], "signing", "()I", none)
def m_K_isPublished : MM := ("KeyringCourt", prog_1_method_38_code, 2, (some FieldType.boolean), [], "isPublished", "(I)Z", none)
def m_W_isPublished : MM := ("KeyringCourtLaw", method_36_code, 4, (some FieldType.int), [(0, 16, 19, 21)], "isPublished", "(LKeyringCourt;I[J)I", none)
def m_M_isOpenKey : MM := ("KeyringCourtModel", prog_14_method_80_code, 2, (some FieldType.boolean), [], "isOpenKey", "(I)Z", none)
def m_M_isPublished : MM := ("KeyringCourtModel", prog_14_method_81_code, 2, (some FieldType.boolean), [], "isPublished", "(I)Z", none)
def m_K_tellOfEnded : MM := ("KeyringCourt", prog_1_method_84_code, 5, (some FieldType.int), [], "tellOfEnded", "(I)I", none)
def m_K_line : MM := ("KeyringCourt", prog_1_method_39_code, 3, (some FieldType.int), [], "line", "(I)I", none)
def m_W_line : MM := ("KeyringCourtLaw", method_37_code, 4, (some FieldType.int), [(0, 9, 12, 21)], "line", "(LKeyringCourt;I[J)I", none)
def m_M_line : MM := ("KeyringCourtModel", prog_14_method_82_code, 5, (some FieldType.int), [], "line", "(I)I", none)
def m_K_fetchKeys : MM := ("KeyringCourt", prog_1_method_90_code, 4, none, [], "fetchKeys", "(LKeyringCourt$Service;I)V", none)
def m_K_check : MM := ("KeyringCourt", prog_1_method_40_code, 6, (some FieldType.int), [], "check", "(III)I", none)
def m_W_check : MM := ("KeyringCourtLaw", method_38_code, 6, (some FieldType.int), [(0, 12, 15, 21), (0, 12, 19, 13)], "check", "(LKeyringCourt;III[J)I", none)
def m_M_check : MM := ("KeyringCourtModel", prog_14_method_83_code, 6, (some FieldType.int), [], "check", "(III)I", none)
def m_K_lag : MM := ("KeyringCourt", prog_1_method_41_code, 3, (some FieldType.int), [], "lag", "(I)I", none)
def m_W_lag : MM := ("KeyringCourtLaw", method_39_code, 4, (some FieldType.int), [(0, 9, 12, 21)], "lag", "(LKeyringCourt;I[J)I", none)
def m_M_lag : MM := ("KeyringCourtModel", prog_14_method_84_code, 3, (some FieldType.int), [], "lag", "(I)I", none)
def m_K_hasOpenRecovery : MM := ("KeyringCourt", prog_1_method_91_code, 4, (some FieldType.boolean), [], "hasOpenRecovery", "(LKeyringCourt$Person;)Z", none)
def m_Recovery_init : MM := ("KeyringCourt$Recovery", prog_8_method_1_code, 3, none, [], "<init>", "(LKeyringCourt$Person;I)V", none)
def m_K_recover : MM := ("KeyringCourt", prog_1_method_42_code, 3, (some FieldType.int), [], "recover", "(I)I", none)
def m_W_recover : MM := ("KeyringCourtLaw", method_40_code, 4, (some FieldType.int), [(0, 9, 12, 21), (0, 9, 15, 15)], "recover", "(LKeyringCourt;I[J)I", none)
def m_M_recover : MM := ("KeyringCourtModel", prog_14_method_85_code, 5, (some FieldType.int), [], "recover", "(I)I", none)
def m_K_findRecovery : MM := ("KeyringCourt", prog_1_method_68_code, 2, (some (FieldType.object "KeyringCourt$Recovery")), [], "findRecovery", "(I)LKeyringCourt$Recovery;", none)
def m_K_vouch : MM := ("KeyringCourt", prog_1_method_43_code, 5, (some FieldType.int), [], "vouch", "(II)I", none)
def m_W_vouch : MM := ("KeyringCourtLaw", method_41_code, 5, (some FieldType.int), [(0, 10, 13, 21), (0, 10, 17, 15)], "vouch", "(LKeyringCourt;II[J)I", none)
def m_M_isRecovery : MM := ("KeyringCourtModel", prog_14_method_87_code, 2, (some FieldType.boolean), [], "isRecovery", "(I)Z", none)
def m_M_speaks : MM := ("KeyringCourtModel", prog_14_method_86_code, 2, (some FieldType.boolean), [], "speaks", "(I)Z", none)
def m_M_vouch : MM := ("KeyringCourtModel", prog_14_method_89_code, 5, (some FieldType.int), [], "vouch", "(II)I", none)
def m_IN_bitCount : MM := ("java/lang/Integer", prog_21_method_49_code, 1, (some FieldType.int), [], "bitCount", "(I)I", none)
def m_Recovery_countVouchers : MM := ("KeyringCourt$Recovery", prog_8_method_2_code, 1, (some FieldType.int), [], "countVouchers", "()I", none)
def m_K_stop : MM := ("KeyringCourt", prog_1_method_44_code, 5, (some FieldType.int), [], "stop", "(II)I", none)
def m_W_stop : MM := ("KeyringCourtLaw", method_42_code, 5, (some FieldType.int), [(0, 10, 13, 21), (0, 10, 17, 15)], "stop", "(LKeyringCourt;II[J)I", none)
def m_M_many : MM := ("KeyringCourtModel", prog_14_method_88_code, 3, (some FieldType.int), [], "many", "(I)I", none)
def m_M_stop : MM := ("KeyringCourtModel", prog_14_method_90_code, 4, (some FieldType.int), [], "stop", "(II)I", none)
def m_Person_levelOfEnrolled : MM := ("KeyringCourt$Person", prog_7_method_5_code, 3, (some FieldType.int), [], "levelOfEnrolled", "()I", none)
def m_K_endSessionsOf : MM := ("KeyringCourt", prog_1_method_81_code, 5, (some FieldType.int), [], "endSessionsOf", "(LKeyringCourt$Person;)I", none)
def m_Person_loseFactors : MM := ("KeyringCourt$Person", prog_7_method_4_code, 2, none, [], "loseFactors", "()V", none)
def m_K_finish : MM := ("KeyringCourt", prog_1_method_45_code, 4, (some FieldType.int), [], "finish", "(I)I", none)
def m_W_finish : MM := ("KeyringCourtLaw", method_43_code, 4, (some FieldType.int), [(0, 9, 12, 21), (0, 9, 15, 15)], "finish", "(LKeyringCourt;I[J)I", none)
def m_M_weight : MM := ("KeyringCourtModel", prog_14_method_28_code, 1, (some FieldType.int), [], "weight", "(I)I", none)
def m_M_endAllOf : MM := ("KeyringCourtModel", prog_14_method_23_code, 4, (some FieldType.int), [], "endAllOf", "(I)I", none)
def m_M_finish : MM := ("KeyringCourtModel", prog_14_method_91_code, 8, (some FieldType.int), [], "finish", "(I)I", none)
def m_K_link : MM := ("KeyringCourt", prog_1_method_46_code, 4, (some FieldType.int), [], "link", "(II)I", none)
def m_W_link : MM := ("KeyringCourtLaw", method_44_code, 5, (some FieldType.int), [(0, 10, 13, 21), (0, 10, 17, 15)], "link", "(LKeyringCourt;II[J)I", none)
def m_M_link : MM := ("KeyringCourtModel", prog_14_method_92_code, 5, (some FieldType.int), [], "link", "(II)I", none)
def m_K_foreign : MM := ("KeyringCourt", prog_1_method_47_code, 4, (some FieldType.int), [], "foreign", "(I)I", none)
def m_W_foreign : MM := ("KeyringCourtLaw", method_45_code, 4, (some FieldType.int), [(0, 9, 12, 21), (0, 9, 15, 15)], "foreign", "(LKeyringCourt;I[J)I", none)
def m_M_foreign : MM := ("KeyringCourtModel", prog_14_method_93_code, 3, (some FieldType.int), [], "foreign", "(I)I", none)
def m_K_denyAttemptsOf : MM := ("KeyringCourt", prog_1_method_93_code, 4, none, [], "denyAttemptsOf", "(LKeyringCourt$Person;)V", none)
def m_K_stopRecoveriesOf : MM := ("KeyringCourt", prog_1_method_92_code, 4, none, [], "stopRecoveriesOf", "(LKeyringCourt$Person;)V", none)
def m_K_leave : MM := ("KeyringCourt", prog_1_method_48_code, 3, (some FieldType.int), [], "leave", "(I)I", none)
def m_W_leave : MM := ("KeyringCourtLaw", method_46_code, 4, (some FieldType.int), [(0, 9, 12, 21)], "leave", "(LKeyringCourt;I[J)I", none)
def m_M_leave : MM := ("KeyringCourtModel", prog_14_method_94_code, 4, (some FieldType.int), [], "leave", "(I)I", none)
def m_K_audits : MM := ("KeyringCourt", prog_1_method_49_code, 1, (some FieldType.int), [], "audits", "()I", none)
def m_M_audits : MM := ("KeyringCourtModel", prog_14_method_15_code, 1, (some FieldType.int), [], "audits", "()I", none)
def m_K_audit : MM := ("KeyringCourt", prog_1_method_50_code, 2, (some FieldType.int), [], "audit", "(I)I", none)
def m_W_audit : MM := ("KeyringCourtLaw", method_47_code, 4, (some FieldType.int), [(0, 9, 12, 21)], "audit", "(LKeyringCourt;I[J)I", none)
def m_M_audit : MM := ("KeyringCourtModel", prog_14_method_16_code, 2, (some FieldType.int), [], "audit", "(I)I", none)
def m_K_sum : MM := ("KeyringCourt", prog_1_method_51_code, 1, (some FieldType.int), [], "sum", "()I", none)
def m_M_sum : MM := ("KeyringCourtModel", prog_14_method_17_code, 1, (some FieldType.int), [], "sum", "()I", none)
def m_Audit_totalOfFirst : MM := ("KeyringCourt$Audit", prog_3_method_5_code, 4, (some FieldType.int), [], "totalOfFirst", "(I)I", none)
def m_K_sumAnew : MM := ("KeyringCourt", prog_1_method_52_code, 2, (some FieldType.int), [], "sumAnew", "(I)I", none)
def m_W_sumAnew : MM := ("KeyringCourtLaw", method_48_code, 4, (some FieldType.int), [(0, 9, 12, 21)], "sumAnew", "(LKeyringCourt;I[J)I", none)
def m_M_sumAnew : MM := ("KeyringCourtModel", prog_14_method_18_code, 4, (some FieldType.int), [], "sumAnew", "(I)I", none)
def m_W_law (X : Nat → Int32) (L : Nat) : MM := ("KeyringCourtLaw", code, 7, (some FieldType.boolean), [], "law", "([I)Z", some (X, L))
theorem d_Audit_init_0 : decode (mC m_Audit_init) 0 = .ok (.aload_n 0, 1) := by decide +kernel
theorem d_Audit_init_1 : decode (mC m_Audit_init) 1 = .ok (.invokespecial 1, 3) := by decide +kernel
theorem d_Audit_init_4 : decode (mC m_Audit_init) 4 = .ok (.aload_n 0, 1) := by decide +kernel
theorem d_Audit_init_5 : decode (mC m_Audit_init) 5 = .ok (.sipush (1024), 3) := by decide +kernel
theorem d_Audit_init_8 : decode (mC m_Audit_init) 8 = .ok (.newarray .int, 2) := by decide +kernel
theorem d_Audit_init_10 : decode (mC m_Audit_init) 10 = .ok (.putfield 9, 3) := by decide +kernel
theorem d_Audit_init_13 : decode (mC m_Audit_init) 13 = .ok (.aload_n 0, 1) := by decide +kernel
theorem d_Audit_init_14 : decode (mC m_Audit_init) 14 = .ok (.sipush (1024), 3) := by decide +kernel
theorem d_Audit_init_17 : decode (mC m_Audit_init) 17 = .ok (.newarray .int, 2) := by decide +kernel
theorem d_Audit_init_19 : decode (mC m_Audit_init) 19 = .ok (.putfield 13, 3) := by decide +kernel
theorem d_Audit_init_22 : decode (mC m_Audit_init) 22 = .ok (.aload_n 0, 1) := by decide +kernel
theorem d_Audit_init_23 : decode (mC m_Audit_init) 23 = .ok (.bipush (7), 2) := by decide +kernel
theorem d_Audit_init_25 : decode (mC m_Audit_init) 25 = .ok (.putfield 16, 3) := by decide +kernel
theorem d_Audit_init_28 : decode (mC m_Audit_init) 28 = .ok (.return_, 1) := by decide +kernel
theorem d_Flow_init_0 : decode (mC m_Flow_init) 0 = .ok (.aload_n 0, 1) := by decide +kernel
theorem d_Flow_init_1 : decode (mC m_Flow_init) 1 = .ok (.invokespecial 3, 3) := by decide +kernel
theorem d_Flow_init_4 : decode (mC m_Flow_init) 4 = .ok (.aload_n 0, 1) := by decide +kernel
theorem d_Flow_init_5 : decode (mC m_Flow_init) 5 = .ok (.bipush (12), 2) := by decide +kernel
theorem d_Flow_init_7 : decode (mC m_Flow_init) 7 = .ok (.newarray .int, 2) := by decide +kernel
theorem d_Flow_init_9 : decode (mC m_Flow_init) 9 = .ok (.putfield 11, 3) := by decide +kernel
theorem d_Flow_init_12 : decode (mC m_Flow_init) 12 = .ok (.aload_n 0, 1) := by decide +kernel
theorem d_Flow_init_13 : decode (mC m_Flow_init) 13 = .ok (.bipush (12), 2) := by decide +kernel
theorem d_Flow_init_15 : decode (mC m_Flow_init) 15 = .ok (.newarray .int, 2) := by decide +kernel
theorem d_Flow_init_17 : decode (mC m_Flow_init) 17 = .ok (.putfield 15, 3) := by decide +kernel
theorem d_Flow_init_20 : decode (mC m_Flow_init) 20 = .ok (.aload_n 0, 1) := by decide +kernel
theorem d_Flow_init_21 : decode (mC m_Flow_init) 21 = .ok (.bipush (12), 2) := by decide +kernel
theorem d_Flow_init_23 : decode (mC m_Flow_init) 23 = .ok (.newarray .int, 2) := by decide +kernel
theorem d_Flow_init_25 : decode (mC m_Flow_init) 25 = .ok (.putfield 18, 3) := by decide +kernel
theorem d_Flow_init_28 : decode (mC m_Flow_init) 28 = .ok (.aload_n 0, 1) := by decide +kernel
theorem d_Flow_init_29 : decode (mC m_Flow_init) 29 = .ok (.bipush (12), 2) := by decide +kernel
theorem d_Flow_init_31 : decode (mC m_Flow_init) 31 = .ok (.newarray .int, 2) := by decide +kernel
theorem d_Flow_init_33 : decode (mC m_Flow_init) 33 = .ok (.putfield 21, 3) := by decide +kernel
theorem d_Flow_init_36 : decode (mC m_Flow_init) 36 = .ok (.aload_n 0, 1) := by decide +kernel
theorem d_Flow_init_37 : decode (mC m_Flow_init) 37 = .ok (.bipush (12), 2) := by decide +kernel
theorem d_Flow_init_39 : decode (mC m_Flow_init) 39 = .ok (.newarray .int, 2) := by decide +kernel
theorem d_Flow_init_41 : decode (mC m_Flow_init) 41 = .ok (.putfield 24, 3) := by decide +kernel
theorem d_Flow_init_44 : decode (mC m_Flow_init) 44 = .ok (.return_, 1) := by decide +kernel
theorem d_AC_init_0 : decode (mC m_AC_init) 0 = .ok (.aload_n 0, 1) := by decide +kernel
theorem d_AC_init_1 : decode (mC m_AC_init) 1 = .ok (.invokespecial 1, 3) := by decide +kernel
theorem d_AC_init_4 : decode (mC m_AC_init) 4 = .ok (.return_, 1) := by decide +kernel
theorem d_AB_init_0 : decode (mC m_AB_init) 0 = .ok (.aload_n 0, 1) := by decide +kernel
theorem d_AB_init_1 : decode (mC m_AB_init) 1 = .ok (.invokespecial 1, 3) := by decide +kernel
theorem d_AB_init_4 : decode (mC m_AB_init) 4 = .ok (.aload_n 0, 1) := by decide +kernel
theorem d_AB_init_5 : decode (mC m_AB_init) 5 = .ok (.iconst 0, 1) := by decide +kernel
theorem d_AB_init_6 : decode (mC m_AB_init) 6 = .ok (.putfield 7, 3) := by decide +kernel
theorem d_AB_init_9 : decode (mC m_AB_init) 9 = .ok (.return_, 1) := by decide +kernel
theorem d_AL_init_0 : decode (mC m_AL_init) 0 = .ok (.aload_n 0, 1) := by decide +kernel
theorem d_AL_init_1 : decode (mC m_AL_init) 1 = .ok (.invokespecial 1, 3) := by decide +kernel
theorem d_AL_init_4 : decode (mC m_AL_init) 4 = .ok (.aload_n 0, 1) := by decide +kernel
theorem d_AL_init_5 : decode (mC m_AL_init) 5 = .ok (.getstatic 39, 3) := by decide +kernel
theorem d_AL_init_8 : decode (mC m_AL_init) 8 = .ok (.putfield 9, 3) := by decide +kernel
theorem d_AL_init_11 : decode (mC m_AL_init) 11 = .ok (.return_, 1) := by decide +kernel
theorem d_Keyring_init_0 : decode (mC m_Keyring_init) 0 = .ok (.aload_n 0, 1) := by decide +kernel
theorem d_Keyring_init_1 : decode (mC m_Keyring_init) 1 = .ok (.invokespecial 3, 3) := by decide +kernel
theorem d_Keyring_init_4 : decode (mC m_Keyring_init) 4 = .ok (.aload_n 0, 1) := by decide +kernel
theorem d_Keyring_init_5 : decode (mC m_Keyring_init) 5 = .ok (.iconst 1, 1) := by decide +kernel
theorem d_Keyring_init_6 : decode (mC m_Keyring_init) 6 = .ok (.putfield 9, 3) := by decide +kernel
theorem d_Keyring_init_9 : decode (mC m_Keyring_init) 9 = .ok (.aload_n 0, 1) := by decide +kernel
theorem d_Keyring_init_10 : decode (mC m_Keyring_init) 10 = .ok (.iconst (-1), 1) := by decide +kernel
theorem d_Keyring_init_11 : decode (mC m_Keyring_init) 11 = .ok (.putfield 15, 3) := by decide +kernel
theorem d_Keyring_init_14 : decode (mC m_Keyring_init) 14 = .ok (.aload_n 0, 1) := by decide +kernel
theorem d_Keyring_init_15 : decode (mC m_Keyring_init) 15 = .ok (.iconst 1, 1) := by decide +kernel
theorem d_Keyring_init_16 : decode (mC m_Keyring_init) 16 = .ok (.putfield 18, 3) := by decide +kernel
theorem d_Keyring_init_19 : decode (mC m_Keyring_init) 19 = .ok (.aload_n 0, 1) := by decide +kernel
theorem d_Keyring_init_20 : decode (mC m_Keyring_init) 20 = .ok (.bipush (20), 2) := by decide +kernel
theorem d_Keyring_init_22 : decode (mC m_Keyring_init) 22 = .ok (.newarray .int, 2) := by decide +kernel
theorem d_Keyring_init_24 : decode (mC m_Keyring_init) 24 = .ok (.putfield 21, 3) := by decide +kernel
theorem d_Keyring_init_27 : decode (mC m_Keyring_init) 27 = .ok (.return_, 1) := by decide +kernel
theorem d_Person_init_0 : decode (mC m_Person_init) 0 = .ok (.aload_n 0, 1) := by decide +kernel
theorem d_Person_init_1 : decode (mC m_Person_init) 1 = .ok (.invokespecial 3, 3) := by decide +kernel
theorem d_Person_init_4 : decode (mC m_Person_init) 4 = .ok (.aload_n 0, 1) := by decide +kernel
theorem d_Person_init_5 : decode (mC m_Person_init) 5 = .ok (.iconst 3, 1) := by decide +kernel
theorem d_Person_init_6 : decode (mC m_Person_init) 6 = .ok (.newarray .int, 2) := by decide +kernel
theorem d_Person_init_8 : decode (mC m_Person_init) 8 = .ok (.putfield 9, 3) := by decide +kernel
theorem d_Person_init_11 : decode (mC m_Person_init) 11 = .ok (.aload_n 0, 1) := by decide +kernel
theorem d_Person_init_12 : decode (mC m_Person_init) 12 = .ok (.iconst 3, 1) := by decide +kernel
theorem d_Person_init_13 : decode (mC m_Person_init) 13 = .ok (.newarray .int, 2) := by decide +kernel
theorem d_Person_init_15 : decode (mC m_Person_init) 15 = .ok (.putfield 15, 3) := by decide +kernel
theorem d_Person_init_18 : decode (mC m_Person_init) 18 = .ok (.aload_n 0, 1) := by decide +kernel
theorem d_Person_init_19 : decode (mC m_Person_init) 19 = .ok (.iconst (-1), 1) := by decide +kernel
theorem d_Person_init_20 : decode (mC m_Person_init) 20 = .ok (.putfield 18, 3) := by decide +kernel
theorem d_Person_init_23 : decode (mC m_Person_init) 23 = .ok (.aload_n 0, 1) := by decide +kernel
theorem d_Person_init_24 : decode (mC m_Person_init) 24 = .ok (.iconst (-1), 1) := by decide +kernel
theorem d_Person_init_25 : decode (mC m_Person_init) 25 = .ok (.putfield 22, 3) := by decide +kernel
theorem d_Person_init_28 : decode (mC m_Person_init) 28 = .ok (.aload_n 0, 1) := by decide +kernel
theorem d_Person_init_29 : decode (mC m_Person_init) 29 = .ok (.iconst (-1), 1) := by decide +kernel
theorem d_Person_init_30 : decode (mC m_Person_init) 30 = .ok (.putfield 25, 3) := by decide +kernel
theorem d_Person_init_33 : decode (mC m_Person_init) 33 = .ok (.aload_n 0, 1) := by decide +kernel
theorem d_Person_init_34 : decode (mC m_Person_init) 34 = .ok (.iconst 4, 1) := by decide +kernel
theorem d_Person_init_35 : decode (mC m_Person_init) 35 = .ok (.newarray .int, 2) := by decide +kernel
theorem d_Person_init_37 : decode (mC m_Person_init) 37 = .ok (.putfield 28, 3) := by decide +kernel
theorem d_Person_init_40 : decode (mC m_Person_init) 40 = .ok (.aload_n 0, 1) := by decide +kernel
theorem d_Person_init_41 : decode (mC m_Person_init) 41 = .ok (.iload_n 1, 1) := by decide +kernel
theorem d_Person_init_42 : decode (mC m_Person_init) 42 = .ok (.putfield 31, 3) := by decide +kernel
theorem d_Person_init_45 : decode (mC m_Person_init) 45 = .ok (.return_, 1) := by decide +kernel
theorem d_Service_init_0 : decode (mC m_Service_init) 0 = .ok (.aload_n 0, 1) := by decide +kernel
theorem d_Service_init_1 : decode (mC m_Service_init) 1 = .ok (.invokespecial 1, 3) := by decide +kernel
theorem d_Service_init_4 : decode (mC m_Service_init) 4 = .ok (.aload_n 0, 1) := by decide +kernel
theorem d_Service_init_5 : decode (mC m_Service_init) 5 = .ok (.iconst 1, 1) := by decide +kernel
theorem d_Service_init_6 : decode (mC m_Service_init) 6 = .ok (.putfield 7, 3) := by decide +kernel
theorem d_Service_init_9 : decode (mC m_Service_init) 9 = .ok (.aload_n 0, 1) := by decide +kernel
theorem d_Service_init_10 : decode (mC m_Service_init) 10 = .ok (.iconst 1, 1) := by decide +kernel
theorem d_Service_init_11 : decode (mC m_Service_init) 11 = .ok (.putfield 13, 3) := by decide +kernel
theorem d_Service_init_14 : decode (mC m_Service_init) 14 = .ok (.return_, 1) := by decide +kernel
theorem d_K_init_0 : decode (mC m_K_init) 0 = .ok (.aload_n 0, 1) := by decide +kernel
theorem d_K_init_1 : decode (mC m_K_init) 1 = .ok (.invokespecial 1, 3) := by decide +kernel
theorem d_K_init_4 : decode (mC m_K_init) 4 = .ok (.aload_n 0, 1) := by decide +kernel
theorem d_K_init_5 : decode (mC m_K_init) 5 = .ok (.new 7, 3) := by decide +kernel
theorem d_K_init_8 : decode (mC m_K_init) 8 = .ok (.dup, 1) := by decide +kernel
theorem d_K_init_9 : decode (mC m_K_init) 9 = .ok (.invokespecial 9, 3) := by decide +kernel
theorem d_K_init_12 : decode (mC m_K_init) 12 = .ok (.putfield 10, 3) := by decide +kernel
theorem d_K_init_15 : decode (mC m_K_init) 15 = .ok (.aload_n 0, 1) := by decide +kernel
theorem d_K_init_16 : decode (mC m_K_init) 16 = .ok (.bipush (6), 2) := by decide +kernel
theorem d_K_init_18 : decode (mC m_K_init) 18 = .ok (.anewarray 16, 3) := by decide +kernel
theorem d_K_init_21 : decode (mC m_K_init) 21 = .ok (.putfield 18, 3) := by decide +kernel
theorem d_K_init_24 : decode (mC m_K_init) 24 = .ok (.aload_n 0, 1) := by decide +kernel
theorem d_K_init_25 : decode (mC m_K_init) 25 = .ok (.iconst 3, 1) := by decide +kernel
theorem d_K_init_26 : decode (mC m_K_init) 26 = .ok (.newarray .int, 2) := by decide +kernel
theorem d_K_init_28 : decode (mC m_K_init) 28 = .ok (.dup, 1) := by decide +kernel
theorem d_K_init_29 : decode (mC m_K_init) 29 = .ok (.iconst 0, 1) := by decide +kernel
theorem d_K_init_30 : decode (mC m_K_init) 30 = .ok (.iconst 2, 1) := by decide +kernel
theorem d_K_init_31 : decode (mC m_K_init) 31 = .ok (.iastore, 1) := by decide +kernel
theorem d_K_init_32 : decode (mC m_K_init) 32 = .ok (.dup, 1) := by decide +kernel
theorem d_K_init_33 : decode (mC m_K_init) 33 = .ok (.iconst 1, 1) := by decide +kernel
theorem d_K_init_34 : decode (mC m_K_init) 34 = .ok (.iconst 1, 1) := by decide +kernel
theorem d_K_init_35 : decode (mC m_K_init) 35 = .ok (.iastore, 1) := by decide +kernel
theorem d_K_init_36 : decode (mC m_K_init) 36 = .ok (.dup, 1) := by decide +kernel
theorem d_K_init_37 : decode (mC m_K_init) 37 = .ok (.iconst 2, 1) := by decide +kernel
theorem d_K_init_38 : decode (mC m_K_init) 38 = .ok (.iconst 1, 1) := by decide +kernel
theorem d_K_init_39 : decode (mC m_K_init) 39 = .ok (.iastore, 1) := by decide +kernel
theorem d_K_init_40 : decode (mC m_K_init) 40 = .ok (.putfield 22, 3) := by decide +kernel
theorem d_K_init_43 : decode (mC m_K_init) 43 = .ok (.aload_n 0, 1) := by decide +kernel
theorem d_K_init_44 : decode (mC m_K_init) 44 = .ok (.iconst 3, 1) := by decide +kernel
theorem d_K_init_45 : decode (mC m_K_init) 45 = .ok (.newarray .int, 2) := by decide +kernel
theorem d_K_init_47 : decode (mC m_K_init) 47 = .ok (.dup, 1) := by decide +kernel
theorem d_K_init_48 : decode (mC m_K_init) 48 = .ok (.iconst 0, 1) := by decide +kernel
theorem d_K_init_49 : decode (mC m_K_init) 49 = .ok (.iconst (-1), 1) := by decide +kernel
theorem d_K_init_50 : decode (mC m_K_init) 50 = .ok (.iastore, 1) := by decide +kernel
theorem d_K_init_51 : decode (mC m_K_init) 51 = .ok (.dup, 1) := by decide +kernel
theorem d_K_init_52 : decode (mC m_K_init) 52 = .ok (.iconst 1, 1) := by decide +kernel
theorem d_K_init_53 : decode (mC m_K_init) 53 = .ok (.iconst (-1), 1) := by decide +kernel
theorem d_K_init_54 : decode (mC m_K_init) 54 = .ok (.iastore, 1) := by decide +kernel
theorem d_K_init_55 : decode (mC m_K_init) 55 = .ok (.dup, 1) := by decide +kernel
theorem d_K_init_56 : decode (mC m_K_init) 56 = .ok (.iconst 2, 1) := by decide +kernel
theorem d_K_init_57 : decode (mC m_K_init) 57 = .ok (.iconst (-1), 1) := by decide +kernel
theorem d_K_init_58 : decode (mC m_K_init) 58 = .ok (.iastore, 1) := by decide +kernel
theorem d_K_init_59 : decode (mC m_K_init) 59 = .ok (.putfield 26, 3) := by decide +kernel
theorem d_K_init_62 : decode (mC m_K_init) 62 = .ok (.aload_n 0, 1) := by decide +kernel
theorem d_K_init_63 : decode (mC m_K_init) 63 = .ok (.new 29, 3) := by decide +kernel
theorem d_K_init_66 : decode (mC m_K_init) 66 = .ok (.dup, 1) := by decide +kernel
theorem d_K_init_67 : decode (mC m_K_init) 67 = .ok (.invokespecial 31, 3) := by decide +kernel
theorem d_K_init_70 : decode (mC m_K_init) 70 = .ok (.putfield 32, 3) := by decide +kernel
theorem d_K_init_73 : decode (mC m_K_init) 73 = .ok (.aload_n 0, 1) := by decide +kernel
theorem d_K_init_74 : decode (mC m_K_init) 74 = .ok (.new 36, 3) := by decide +kernel
theorem d_K_init_77 : decode (mC m_K_init) 77 = .ok (.dup, 1) := by decide +kernel
theorem d_K_init_78 : decode (mC m_K_init) 78 = .ok (.invokespecial 38, 3) := by decide +kernel
theorem d_K_init_81 : decode (mC m_K_init) 81 = .ok (.putfield 39, 3) := by decide +kernel
theorem d_K_init_84 : decode (mC m_K_init) 84 = .ok (.aload_n 0, 1) := by decide +kernel
theorem d_K_init_85 : decode (mC m_K_init) 85 = .ok (.new 36, 3) := by decide +kernel
theorem d_K_init_88 : decode (mC m_K_init) 88 = .ok (.dup, 1) := by decide +kernel
theorem d_K_init_89 : decode (mC m_K_init) 89 = .ok (.invokespecial 38, 3) := by decide +kernel
theorem d_K_init_92 : decode (mC m_K_init) 92 = .ok (.putfield 43, 3) := by decide +kernel
theorem d_K_init_95 : decode (mC m_K_init) 95 = .ok (.aload_n 0, 1) := by decide +kernel
theorem d_K_init_96 : decode (mC m_K_init) 96 = .ok (.new 36, 3) := by decide +kernel
theorem d_K_init_99 : decode (mC m_K_init) 99 = .ok (.dup, 1) := by decide +kernel
theorem d_K_init_100 : decode (mC m_K_init) 100 = .ok (.invokespecial 38, 3) := by decide +kernel
theorem d_K_init_103 : decode (mC m_K_init) 103 = .ok (.putfield 46, 3) := by decide +kernel
theorem d_K_init_106 : decode (mC m_K_init) 106 = .ok (.aload_n 0, 1) := by decide +kernel
theorem d_K_init_107 : decode (mC m_K_init) 107 = .ok (.iconst 4, 1) := by decide +kernel
theorem d_K_init_108 : decode (mC m_K_init) 108 = .ok (.newarray .int, 2) := by decide +kernel
theorem d_K_init_110 : decode (mC m_K_init) 110 = .ok (.putfield 49, 3) := by decide +kernel
theorem d_K_init_113 : decode (mC m_K_init) 113 = .ok (.aload_n 0, 1) := by decide +kernel
theorem d_K_init_114 : decode (mC m_K_init) 114 = .ok (.iconst 4, 1) := by decide +kernel
theorem d_K_init_115 : decode (mC m_K_init) 115 = .ok (.anewarray 52, 3) := by decide +kernel
theorem d_K_init_118 : decode (mC m_K_init) 118 = .ok (.putfield 54, 3) := by decide +kernel
theorem d_K_init_121 : decode (mC m_K_init) 121 = .ok (.aload_n 0, 1) := by decide +kernel
theorem d_K_init_122 : decode (mC m_K_init) 122 = .ok (.new 36, 3) := by decide +kernel
theorem d_K_init_125 : decode (mC m_K_init) 125 = .ok (.dup, 1) := by decide +kernel
theorem d_K_init_126 : decode (mC m_K_init) 126 = .ok (.invokespecial 38, 3) := by decide +kernel
theorem d_K_init_129 : decode (mC m_K_init) 129 = .ok (.putfield 58, 3) := by decide +kernel
theorem d_K_init_132 : decode (mC m_K_init) 132 = .ok (.aload_n 0, 1) := by decide +kernel
theorem d_K_init_133 : decode (mC m_K_init) 133 = .ok (.new 36, 3) := by decide +kernel
theorem d_K_init_136 : decode (mC m_K_init) 136 = .ok (.dup, 1) := by decide +kernel
theorem d_K_init_137 : decode (mC m_K_init) 137 = .ok (.invokespecial 38, 3) := by decide +kernel
theorem d_K_init_140 : decode (mC m_K_init) 140 = .ok (.putfield 61, 3) := by decide +kernel
theorem d_K_init_143 : decode (mC m_K_init) 143 = .ok (.aload_n 0, 1) := by decide +kernel
theorem d_K_init_144 : decode (mC m_K_init) 144 = .ok (.new 36, 3) := by decide +kernel
theorem d_K_init_147 : decode (mC m_K_init) 147 = .ok (.dup, 1) := by decide +kernel
theorem d_K_init_148 : decode (mC m_K_init) 148 = .ok (.invokespecial 38, 3) := by decide +kernel
theorem d_K_init_151 : decode (mC m_K_init) 151 = .ok (.putfield 64, 3) := by decide +kernel
theorem d_K_init_154 : decode (mC m_K_init) 154 = .ok (.aload_n 0, 1) := by decide +kernel
theorem d_K_init_155 : decode (mC m_K_init) 155 = .ok (.new 67, 3) := by decide +kernel
theorem d_K_init_158 : decode (mC m_K_init) 158 = .ok (.dup, 1) := by decide +kernel
theorem d_K_init_159 : decode (mC m_K_init) 159 = .ok (.invokespecial 69, 3) := by decide +kernel
theorem d_K_init_162 : decode (mC m_K_init) 162 = .ok (.putfield 70, 3) := by decide +kernel
theorem d_K_init_165 : decode (mC m_K_init) 165 = .ok (.aload_n 0, 1) := by decide +kernel
theorem d_K_init_166 : decode (mC m_K_init) 166 = .ok (.new 36, 3) := by decide +kernel
theorem d_K_init_169 : decode (mC m_K_init) 169 = .ok (.dup, 1) := by decide +kernel
theorem d_K_init_170 : decode (mC m_K_init) 170 = .ok (.invokespecial 38, 3) := by decide +kernel
theorem d_K_init_173 : decode (mC m_K_init) 173 = .ok (.putfield 74, 3) := by decide +kernel
theorem d_K_init_176 : decode (mC m_K_init) 176 = .ok (.aload_n 0, 1) := by decide +kernel
theorem d_K_init_177 : decode (mC m_K_init) 177 = .ok (.bipush (6), 2) := by decide +kernel
theorem d_K_init_179 : decode (mC m_K_init) 179 = .ok (.newarray .int, 2) := by decide +kernel
theorem d_K_init_181 : decode (mC m_K_init) 181 = .ok (.dup, 1) := by decide +kernel
theorem d_K_init_182 : decode (mC m_K_init) 182 = .ok (.iconst 0, 1) := by decide +kernel
theorem d_K_init_183 : decode (mC m_K_init) 183 = .ok (.iconst (-1), 1) := by decide +kernel
theorem d_K_init_184 : decode (mC m_K_init) 184 = .ok (.iastore, 1) := by decide +kernel
theorem d_K_init_185 : decode (mC m_K_init) 185 = .ok (.dup, 1) := by decide +kernel
theorem d_K_init_186 : decode (mC m_K_init) 186 = .ok (.iconst 1, 1) := by decide +kernel
theorem d_K_init_187 : decode (mC m_K_init) 187 = .ok (.iconst (-1), 1) := by decide +kernel
theorem d_K_init_188 : decode (mC m_K_init) 188 = .ok (.iastore, 1) := by decide +kernel
theorem d_K_init_189 : decode (mC m_K_init) 189 = .ok (.dup, 1) := by decide +kernel
theorem d_K_init_190 : decode (mC m_K_init) 190 = .ok (.iconst 2, 1) := by decide +kernel
theorem d_K_init_191 : decode (mC m_K_init) 191 = .ok (.iconst (-1), 1) := by decide +kernel
theorem d_K_init_192 : decode (mC m_K_init) 192 = .ok (.iastore, 1) := by decide +kernel
theorem d_K_init_193 : decode (mC m_K_init) 193 = .ok (.dup, 1) := by decide +kernel
theorem d_K_init_194 : decode (mC m_K_init) 194 = .ok (.iconst 3, 1) := by decide +kernel
theorem d_K_init_195 : decode (mC m_K_init) 195 = .ok (.iconst (-1), 1) := by decide +kernel
theorem d_K_init_196 : decode (mC m_K_init) 196 = .ok (.iastore, 1) := by decide +kernel
theorem d_K_init_197 : decode (mC m_K_init) 197 = .ok (.dup, 1) := by decide +kernel
theorem d_K_init_198 : decode (mC m_K_init) 198 = .ok (.iconst 4, 1) := by decide +kernel
theorem d_K_init_199 : decode (mC m_K_init) 199 = .ok (.iconst (-1), 1) := by decide +kernel
theorem d_K_init_200 : decode (mC m_K_init) 200 = .ok (.iastore, 1) := by decide +kernel
theorem d_K_init_201 : decode (mC m_K_init) 201 = .ok (.dup, 1) := by decide +kernel
theorem d_K_init_202 : decode (mC m_K_init) 202 = .ok (.iconst 5, 1) := by decide +kernel
theorem d_K_init_203 : decode (mC m_K_init) 203 = .ok (.iconst (-1), 1) := by decide +kernel
theorem d_K_init_204 : decode (mC m_K_init) 204 = .ok (.iastore, 1) := by decide +kernel
theorem d_K_init_205 : decode (mC m_K_init) 205 = .ok (.putfield 77, 3) := by decide +kernel
theorem d_K_init_208 : decode (mC m_K_init) 208 = .ok (.iconst 0, 1) := by decide +kernel
theorem d_K_init_209 : decode (mC m_K_init) 209 = .ok (.istore_n 1, 1) := by decide +kernel
theorem d_K_init_210 : decode (mC m_K_init) 210 = .ok (.iload_n 1, 1) := by decide +kernel
theorem d_K_init_211 : decode (mC m_K_init) 211 = .ok (.bipush (6), 2) := by decide +kernel
theorem d_K_init_213 : decode (mC m_K_init) 213 = .ok (.if_icmp .ge (23), 3) := by decide +kernel
theorem d_K_init_216 : decode (mC m_K_init) 216 = .ok (.aload_n 0, 1) := by decide +kernel
theorem d_K_init_217 : decode (mC m_K_init) 217 = .ok (.getfield 18, 3) := by decide +kernel
theorem d_K_init_220 : decode (mC m_K_init) 220 = .ok (.iload_n 1, 1) := by decide +kernel
theorem d_K_init_221 : decode (mC m_K_init) 221 = .ok (.new 16, 3) := by decide +kernel
theorem d_K_init_224 : decode (mC m_K_init) 224 = .ok (.dup, 1) := by decide +kernel
theorem d_K_init_225 : decode (mC m_K_init) 225 = .ok (.iload_n 1, 1) := by decide +kernel
theorem d_K_init_226 : decode (mC m_K_init) 226 = .ok (.invokespecial 80, 3) := by decide +kernel
theorem d_K_init_229 : decode (mC m_K_init) 229 = .ok (.aastore, 1) := by decide +kernel
theorem d_K_init_230 : decode (mC m_K_init) 230 = .ok (.iinc 1 (1), 3) := by decide +kernel
theorem d_K_init_233 : decode (mC m_K_init) 233 = .ok (.goto (-23), 3) := by decide +kernel
theorem d_K_init_236 : decode (mC m_K_init) 236 = .ok (.iconst 0, 1) := by decide +kernel
theorem d_K_init_237 : decode (mC m_K_init) 237 = .ok (.istore_n 1, 1) := by decide +kernel
theorem d_K_init_238 : decode (mC m_K_init) 238 = .ok (.iload_n 1, 1) := by decide +kernel
theorem d_K_init_239 : decode (mC m_K_init) 239 = .ok (.iconst 4, 1) := by decide +kernel
theorem d_K_init_240 : decode (mC m_K_init) 240 = .ok (.if_icmp .ge (22), 3) := by decide +kernel
theorem d_K_init_243 : decode (mC m_K_init) 243 = .ok (.aload_n 0, 1) := by decide +kernel
theorem d_K_init_244 : decode (mC m_K_init) 244 = .ok (.getfield 54, 3) := by decide +kernel
theorem d_K_init_247 : decode (mC m_K_init) 247 = .ok (.iload_n 1, 1) := by decide +kernel
theorem d_K_init_248 : decode (mC m_K_init) 248 = .ok (.new 52, 3) := by decide +kernel
theorem d_K_init_251 : decode (mC m_K_init) 251 = .ok (.dup, 1) := by decide +kernel
theorem d_K_init_252 : decode (mC m_K_init) 252 = .ok (.invokespecial 83, 3) := by decide +kernel
theorem d_K_init_255 : decode (mC m_K_init) 255 = .ok (.aastore, 1) := by decide +kernel
theorem d_K_init_256 : decode (mC m_K_init) 256 = .ok (.iinc 1 (1), 3) := by decide +kernel
theorem d_K_init_259 : decode (mC m_K_init) 259 = .ok (.goto (-21), 3) := by decide +kernel
theorem d_K_init_262 : decode (mC m_K_init) 262 = .ok (.return_, 1) := by decide +kernel
theorem d_M_init_0 : decode (mC m_M_init) 0 = .ok (.aload_n 0, 1) := by decide +kernel
theorem d_M_init_1 : decode (mC m_M_init) 1 = .ok (.invokespecial 1, 3) := by decide +kernel
theorem d_M_init_4 : decode (mC m_M_init) 4 = .ok (.aload_n 0, 1) := by decide +kernel
theorem d_M_init_5 : decode (mC m_M_init) 5 = .ok (.bipush (18), 2) := by decide +kernel
theorem d_M_init_7 : decode (mC m_M_init) 7 = .ok (.newarray .int, 2) := by decide +kernel
theorem d_M_init_9 : decode (mC m_M_init) 9 = .ok (.putfield 7, 3) := by decide +kernel
theorem d_M_init_12 : decode (mC m_M_init) 12 = .ok (.aload_n 0, 1) := by decide +kernel
theorem d_M_init_13 : decode (mC m_M_init) 13 = .ok (.bipush (18), 2) := by decide +kernel
theorem d_M_init_15 : decode (mC m_M_init) 15 = .ok (.newarray .int, 2) := by decide +kernel
theorem d_M_init_17 : decode (mC m_M_init) 17 = .ok (.putfield 13, 3) := by decide +kernel
theorem d_M_init_20 : decode (mC m_M_init) 20 = .ok (.aload_n 0, 1) := by decide +kernel
theorem d_M_init_21 : decode (mC m_M_init) 21 = .ok (.bipush (6), 2) := by decide +kernel
theorem d_M_init_23 : decode (mC m_M_init) 23 = .ok (.newarray .int, 2) := by decide +kernel
theorem d_M_init_25 : decode (mC m_M_init) 25 = .ok (.putfield 16, 3) := by decide +kernel
theorem d_M_init_28 : decode (mC m_M_init) 28 = .ok (.aload_n 0, 1) := by decide +kernel
theorem d_M_init_29 : decode (mC m_M_init) 29 = .ok (.bipush (18), 2) := by decide +kernel
theorem d_M_init_31 : decode (mC m_M_init) 31 = .ok (.newarray .int, 2) := by decide +kernel
theorem d_M_init_33 : decode (mC m_M_init) 33 = .ok (.putfield 19, 3) := by decide +kernel
theorem d_M_init_36 : decode (mC m_M_init) 36 = .ok (.aload_n 0, 1) := by decide +kernel
theorem d_M_init_37 : decode (mC m_M_init) 37 = .ok (.bipush (36), 2) := by decide +kernel
theorem d_M_init_39 : decode (mC m_M_init) 39 = .ok (.newarray .boolean, 2) := by decide +kernel
theorem d_M_init_41 : decode (mC m_M_init) 41 = .ok (.putfield 22, 3) := by decide +kernel
theorem d_M_init_44 : decode (mC m_M_init) 44 = .ok (.aload_n 0, 1) := by decide +kernel
theorem d_M_init_45 : decode (mC m_M_init) 45 = .ok (.bipush (36), 2) := by decide +kernel
theorem d_M_init_47 : decode (mC m_M_init) 47 = .ok (.newarray .boolean, 2) := by decide +kernel
theorem d_M_init_49 : decode (mC m_M_init) 49 = .ok (.putfield 26, 3) := by decide +kernel
theorem d_M_init_52 : decode (mC m_M_init) 52 = .ok (.aload_n 0, 1) := by decide +kernel
theorem d_M_init_53 : decode (mC m_M_init) 53 = .ok (.bipush (6), 2) := by decide +kernel
theorem d_M_init_55 : decode (mC m_M_init) 55 = .ok (.newarray .boolean, 2) := by decide +kernel
theorem d_M_init_57 : decode (mC m_M_init) 57 = .ok (.putfield 29, 3) := by decide +kernel
theorem d_M_init_60 : decode (mC m_M_init) 60 = .ok (.aload_n 0, 1) := by decide +kernel
theorem d_M_init_61 : decode (mC m_M_init) 61 = .ok (.bipush (6), 2) := by decide +kernel
theorem d_M_init_63 : decode (mC m_M_init) 63 = .ok (.newarray .boolean, 2) := by decide +kernel
theorem d_M_init_65 : decode (mC m_M_init) 65 = .ok (.putfield 32, 3) := by decide +kernel
theorem d_M_init_68 : decode (mC m_M_init) 68 = .ok (.aload_n 0, 1) := by decide +kernel
theorem d_M_init_69 : decode (mC m_M_init) 69 = .ok (.bipush (9), 2) := by decide +kernel
theorem d_M_init_71 : decode (mC m_M_init) 71 = .ok (.newarray .int, 2) := by decide +kernel
theorem d_M_init_73 : decode (mC m_M_init) 73 = .ok (.putfield 35, 3) := by decide +kernel
theorem d_M_init_76 : decode (mC m_M_init) 76 = .ok (.aload_n 0, 1) := by decide +kernel
theorem d_M_init_77 : decode (mC m_M_init) 77 = .ok (.bipush (108), 2) := by decide +kernel
theorem d_M_init_79 : decode (mC m_M_init) 79 = .ok (.newarray .int, 2) := by decide +kernel
theorem d_M_init_81 : decode (mC m_M_init) 81 = .ok (.putfield 38, 3) := by decide +kernel
theorem d_M_init_84 : decode (mC m_M_init) 84 = .ok (.aload_n 0, 1) := by decide +kernel
theorem d_M_init_85 : decode (mC m_M_init) 85 = .ok (.bipush (108), 2) := by decide +kernel
theorem d_M_init_87 : decode (mC m_M_init) 87 = .ok (.newarray .int, 2) := by decide +kernel
theorem d_M_init_89 : decode (mC m_M_init) 89 = .ok (.putfield 41, 3) := by decide +kernel
theorem d_M_init_92 : decode (mC m_M_init) 92 = .ok (.aload_n 0, 1) := by decide +kernel
theorem d_M_init_93 : decode (mC m_M_init) 93 = .ok (.bipush (108), 2) := by decide +kernel
theorem d_M_init_95 : decode (mC m_M_init) 95 = .ok (.newarray .int, 2) := by decide +kernel
theorem d_M_init_97 : decode (mC m_M_init) 97 = .ok (.putfield 44, 3) := by decide +kernel
theorem d_M_init_100 : decode (mC m_M_init) 100 = .ok (.aload_n 0, 1) := by decide +kernel
theorem d_M_init_101 : decode (mC m_M_init) 101 = .ok (.bipush (108), 2) := by decide +kernel
theorem d_M_init_103 : decode (mC m_M_init) 103 = .ok (.newarray .int, 2) := by decide +kernel
theorem d_M_init_105 : decode (mC m_M_init) 105 = .ok (.putfield 47, 3) := by decide +kernel
theorem d_M_init_108 : decode (mC m_M_init) 108 = .ok (.aload_n 0, 1) := by decide +kernel
theorem d_M_init_109 : decode (mC m_M_init) 109 = .ok (.bipush (108), 2) := by decide +kernel
theorem d_M_init_111 : decode (mC m_M_init) 111 = .ok (.newarray .int, 2) := by decide +kernel
theorem d_M_init_113 : decode (mC m_M_init) 113 = .ok (.putfield 50, 3) := by decide +kernel
theorem d_M_init_116 : decode (mC m_M_init) 116 = .ok (.aload_n 0, 1) := by decide +kernel
theorem d_M_init_117 : decode (mC m_M_init) 117 = .ok (.bipush (96), 2) := by decide +kernel
theorem d_M_init_119 : decode (mC m_M_init) 119 = .ok (.newarray .boolean, 2) := by decide +kernel
theorem d_M_init_121 : decode (mC m_M_init) 121 = .ok (.putfield 53, 3) := by decide +kernel
theorem d_M_init_124 : decode (mC m_M_init) 124 = .ok (.aload_n 0, 1) := by decide +kernel
theorem d_M_init_125 : decode (mC m_M_init) 125 = .ok (.iconst 3, 1) := by decide +kernel
theorem d_M_init_126 : decode (mC m_M_init) 126 = .ok (.newarray .int, 2) := by decide +kernel
theorem d_M_init_128 : decode (mC m_M_init) 128 = .ok (.putfield 56, 3) := by decide +kernel
theorem d_M_init_131 : decode (mC m_M_init) 131 = .ok (.aload_n 0, 1) := by decide +kernel
theorem d_M_init_132 : decode (mC m_M_init) 132 = .ok (.iconst 3, 1) := by decide +kernel
theorem d_M_init_133 : decode (mC m_M_init) 133 = .ok (.newarray .int, 2) := by decide +kernel
theorem d_M_init_135 : decode (mC m_M_init) 135 = .ok (.putfield 59, 3) := by decide +kernel
theorem d_M_init_138 : decode (mC m_M_init) 138 = .ok (.aload_n 0, 1) := by decide +kernel
theorem d_M_init_139 : decode (mC m_M_init) 139 = .ok (.bipush (60), 2) := by decide +kernel
theorem d_M_init_141 : decode (mC m_M_init) 141 = .ok (.newarray .int, 2) := by decide +kernel
theorem d_M_init_143 : decode (mC m_M_init) 143 = .ok (.putfield 62, 3) := by decide +kernel
theorem d_M_init_146 : decode (mC m_M_init) 146 = .ok (.aload_n 0, 1) := by decide +kernel
theorem d_M_init_147 : decode (mC m_M_init) 147 = .ok (.bipush (60), 2) := by decide +kernel
theorem d_M_init_149 : decode (mC m_M_init) 149 = .ok (.newarray .int, 2) := by decide +kernel
theorem d_M_init_151 : decode (mC m_M_init) 151 = .ok (.putfield 65, 3) := by decide +kernel
theorem d_M_init_154 : decode (mC m_M_init) 154 = .ok (.aload_n 0, 1) := by decide +kernel
theorem d_M_init_155 : decode (mC m_M_init) 155 = .ok (.bipush (60), 2) := by decide +kernel
theorem d_M_init_157 : decode (mC m_M_init) 157 = .ok (.newarray .int, 2) := by decide +kernel
theorem d_M_init_159 : decode (mC m_M_init) 159 = .ok (.putfield 68, 3) := by decide +kernel
theorem d_M_init_162 : decode (mC m_M_init) 162 = .ok (.aload_n 0, 1) := by decide +kernel
theorem d_M_init_163 : decode (mC m_M_init) 163 = .ok (.bipush (60), 2) := by decide +kernel
theorem d_M_init_165 : decode (mC m_M_init) 165 = .ok (.newarray .int, 2) := by decide +kernel
theorem d_M_init_167 : decode (mC m_M_init) 167 = .ok (.putfield 71, 3) := by decide +kernel
theorem d_M_init_170 : decode (mC m_M_init) 170 = .ok (.aload_n 0, 1) := by decide +kernel
theorem d_M_init_171 : decode (mC m_M_init) 171 = .ok (.bipush (60), 2) := by decide +kernel
theorem d_M_init_173 : decode (mC m_M_init) 173 = .ok (.newarray .int, 2) := by decide +kernel
theorem d_M_init_175 : decode (mC m_M_init) 175 = .ok (.putfield 74, 3) := by decide +kernel
theorem d_M_init_178 : decode (mC m_M_init) 178 = .ok (.aload_n 0, 1) := by decide +kernel
theorem d_M_init_179 : decode (mC m_M_init) 179 = .ok (.bipush (60), 2) := by decide +kernel
theorem d_M_init_181 : decode (mC m_M_init) 181 = .ok (.newarray .int, 2) := by decide +kernel
theorem d_M_init_183 : decode (mC m_M_init) 183 = .ok (.putfield 77, 3) := by decide +kernel
theorem d_M_init_186 : decode (mC m_M_init) 186 = .ok (.aload_n 0, 1) := by decide +kernel
theorem d_M_init_187 : decode (mC m_M_init) 187 = .ok (.bipush (60), 2) := by decide +kernel
theorem d_M_init_189 : decode (mC m_M_init) 189 = .ok (.newarray .int, 2) := by decide +kernel
theorem d_M_init_191 : decode (mC m_M_init) 191 = .ok (.putfield 80, 3) := by decide +kernel
theorem d_M_init_194 : decode (mC m_M_init) 194 = .ok (.aload_n 0, 1) := by decide +kernel
theorem d_M_init_195 : decode (mC m_M_init) 195 = .ok (.bipush (60), 2) := by decide +kernel
theorem d_M_init_197 : decode (mC m_M_init) 197 = .ok (.newarray .int, 2) := by decide +kernel
theorem d_M_init_199 : decode (mC m_M_init) 199 = .ok (.putfield 83, 3) := by decide +kernel
theorem d_M_init_202 : decode (mC m_M_init) 202 = .ok (.aload_n 0, 1) := by decide +kernel
theorem d_M_init_203 : decode (mC m_M_init) 203 = .ok (.bipush (60), 2) := by decide +kernel
theorem d_M_init_205 : decode (mC m_M_init) 205 = .ok (.newarray .int, 2) := by decide +kernel
theorem d_M_init_207 : decode (mC m_M_init) 207 = .ok (.putfield 86, 3) := by decide +kernel
theorem d_M_init_210 : decode (mC m_M_init) 210 = .ok (.aload_n 0, 1) := by decide +kernel
theorem d_M_init_211 : decode (mC m_M_init) 211 = .ok (.sipush (180), 3) := by decide +kernel
theorem d_M_init_214 : decode (mC m_M_init) 214 = .ok (.newarray .int, 2) := by decide +kernel
theorem d_M_init_216 : decode (mC m_M_init) 216 = .ok (.putfield 89, 3) := by decide +kernel
theorem d_M_init_219 : decode (mC m_M_init) 219 = .ok (.aload_n 0, 1) := by decide +kernel
theorem d_M_init_220 : decode (mC m_M_init) 220 = .ok (.bipush (60), 2) := by decide +kernel
theorem d_M_init_222 : decode (mC m_M_init) 222 = .ok (.newarray .int, 2) := by decide +kernel
theorem d_M_init_224 : decode (mC m_M_init) 224 = .ok (.putfield 92, 3) := by decide +kernel
theorem d_M_init_227 : decode (mC m_M_init) 227 = .ok (.aload_n 0, 1) := by decide +kernel
theorem d_M_init_228 : decode (mC m_M_init) 228 = .ok (.bipush (60), 2) := by decide +kernel
theorem d_M_init_230 : decode (mC m_M_init) 230 = .ok (.newarray .int, 2) := by decide +kernel
theorem d_M_init_232 : decode (mC m_M_init) 232 = .ok (.putfield 95, 3) := by decide +kernel
theorem d_M_init_235 : decode (mC m_M_init) 235 = .ok (.aload_n 0, 1) := by decide +kernel
theorem d_M_init_236 : decode (mC m_M_init) 236 = .ok (.bipush (60), 2) := by decide +kernel
theorem d_M_init_238 : decode (mC m_M_init) 238 = .ok (.newarray .int, 2) := by decide +kernel
theorem d_M_init_240 : decode (mC m_M_init) 240 = .ok (.putfield 98, 3) := by decide +kernel
theorem d_M_init_243 : decode (mC m_M_init) 243 = .ok (.aload_n 0, 1) := by decide +kernel
theorem d_M_init_244 : decode (mC m_M_init) 244 = .ok (.bipush (60), 2) := by decide +kernel
theorem d_M_init_246 : decode (mC m_M_init) 246 = .ok (.newarray .int, 2) := by decide +kernel
theorem d_M_init_248 : decode (mC m_M_init) 248 = .ok (.putfield 101, 3) := by decide +kernel
theorem d_M_init_251 : decode (mC m_M_init) 251 = .ok (.aload_n 0, 1) := by decide +kernel
theorem d_M_init_252 : decode (mC m_M_init) 252 = .ok (.bipush (60), 2) := by decide +kernel
theorem d_M_init_254 : decode (mC m_M_init) 254 = .ok (.newarray .boolean, 2) := by decide +kernel
theorem d_M_init_256 : decode (mC m_M_init) 256 = .ok (.putfield 104, 3) := by decide +kernel
theorem d_M_init_259 : decode (mC m_M_init) 259 = .ok (.aload_n 0, 1) := by decide +kernel
theorem d_M_init_260 : decode (mC m_M_init) 260 = .ok (.sipush (180), 3) := by decide +kernel
theorem d_M_init_263 : decode (mC m_M_init) 263 = .ok (.newarray .int, 2) := by decide +kernel
theorem d_M_init_265 : decode (mC m_M_init) 265 = .ok (.putfield 107, 3) := by decide +kernel
theorem d_M_init_268 : decode (mC m_M_init) 268 = .ok (.aload_n 0, 1) := by decide +kernel
theorem d_M_init_269 : decode (mC m_M_init) 269 = .ok (.bipush (28), 2) := by decide +kernel
theorem d_M_init_271 : decode (mC m_M_init) 271 = .ok (.newarray .int, 2) := by decide +kernel
theorem d_M_init_273 : decode (mC m_M_init) 273 = .ok (.putfield 110, 3) := by decide +kernel
theorem d_M_init_276 : decode (mC m_M_init) 276 = .ok (.aload_n 0, 1) := by decide +kernel
theorem d_M_init_277 : decode (mC m_M_init) 277 = .ok (.iconst 4, 1) := by decide +kernel
theorem d_M_init_278 : decode (mC m_M_init) 278 = .ok (.newarray .int, 2) := by decide +kernel
theorem d_M_init_280 : decode (mC m_M_init) 280 = .ok (.putfield 113, 3) := by decide +kernel
theorem d_M_init_283 : decode (mC m_M_init) 283 = .ok (.aload_n 0, 1) := by decide +kernel
theorem d_M_init_284 : decode (mC m_M_init) 284 = .ok (.bipush (60), 2) := by decide +kernel
theorem d_M_init_286 : decode (mC m_M_init) 286 = .ok (.newarray .int, 2) := by decide +kernel
theorem d_M_init_288 : decode (mC m_M_init) 288 = .ok (.putfield 116, 3) := by decide +kernel
theorem d_M_init_291 : decode (mC m_M_init) 291 = .ok (.aload_n 0, 1) := by decide +kernel
theorem d_M_init_292 : decode (mC m_M_init) 292 = .ok (.bipush (60), 2) := by decide +kernel
theorem d_M_init_294 : decode (mC m_M_init) 294 = .ok (.newarray .int, 2) := by decide +kernel
theorem d_M_init_296 : decode (mC m_M_init) 296 = .ok (.putfield 119, 3) := by decide +kernel
theorem d_M_init_299 : decode (mC m_M_init) 299 = .ok (.aload_n 0, 1) := by decide +kernel
theorem d_M_init_300 : decode (mC m_M_init) 300 = .ok (.bipush (60), 2) := by decide +kernel
theorem d_M_init_302 : decode (mC m_M_init) 302 = .ok (.newarray .int, 2) := by decide +kernel
theorem d_M_init_304 : decode (mC m_M_init) 304 = .ok (.putfield 122, 3) := by decide +kernel
theorem d_M_init_307 : decode (mC m_M_init) 307 = .ok (.aload_n 0, 1) := by decide +kernel
theorem d_M_init_308 : decode (mC m_M_init) 308 = .ok (.bipush (60), 2) := by decide +kernel
theorem d_M_init_310 : decode (mC m_M_init) 310 = .ok (.newarray .int, 2) := by decide +kernel
theorem d_M_init_312 : decode (mC m_M_init) 312 = .ok (.putfield 125, 3) := by decide +kernel
theorem d_M_init_315 : decode (mC m_M_init) 315 = .ok (.aload_n 0, 1) := by decide +kernel
theorem d_M_init_316 : decode (mC m_M_init) 316 = .ok (.bipush (60), 2) := by decide +kernel
theorem d_M_init_318 : decode (mC m_M_init) 318 = .ok (.newarray .int, 2) := by decide +kernel
theorem d_M_init_320 : decode (mC m_M_init) 320 = .ok (.putfield 128, 3) := by decide +kernel
theorem d_M_init_323 : decode (mC m_M_init) 323 = .ok (.aload_n 0, 1) := by decide +kernel
theorem d_M_init_324 : decode (mC m_M_init) 324 = .ok (.bipush (60), 2) := by decide +kernel
theorem d_M_init_326 : decode (mC m_M_init) 326 = .ok (.newarray .int, 2) := by decide +kernel
theorem d_M_init_328 : decode (mC m_M_init) 328 = .ok (.putfield 131, 3) := by decide +kernel
theorem d_M_init_331 : decode (mC m_M_init) 331 = .ok (.aload_n 0, 1) := by decide +kernel
theorem d_M_init_332 : decode (mC m_M_init) 332 = .ok (.bipush (60), 2) := by decide +kernel
theorem d_M_init_334 : decode (mC m_M_init) 334 = .ok (.newarray .int, 2) := by decide +kernel
theorem d_M_init_336 : decode (mC m_M_init) 336 = .ok (.putfield 134, 3) := by decide +kernel
theorem d_M_init_339 : decode (mC m_M_init) 339 = .ok (.aload_n 0, 1) := by decide +kernel
theorem d_M_init_340 : decode (mC m_M_init) 340 = .ok (.bipush (60), 2) := by decide +kernel
theorem d_M_init_342 : decode (mC m_M_init) 342 = .ok (.newarray .int, 2) := by decide +kernel
theorem d_M_init_344 : decode (mC m_M_init) 344 = .ok (.putfield 137, 3) := by decide +kernel
theorem d_M_init_347 : decode (mC m_M_init) 347 = .ok (.aload_n 0, 1) := by decide +kernel
theorem d_M_init_348 : decode (mC m_M_init) 348 = .ok (.bipush (60), 2) := by decide +kernel
theorem d_M_init_350 : decode (mC m_M_init) 350 = .ok (.newarray .int, 2) := by decide +kernel
theorem d_M_init_352 : decode (mC m_M_init) 352 = .ok (.putfield 140, 3) := by decide +kernel
theorem d_M_init_355 : decode (mC m_M_init) 355 = .ok (.aload_n 0, 1) := by decide +kernel
theorem d_M_init_356 : decode (mC m_M_init) 356 = .ok (.bipush (60), 2) := by decide +kernel
theorem d_M_init_358 : decode (mC m_M_init) 358 = .ok (.newarray .int, 2) := by decide +kernel
theorem d_M_init_360 : decode (mC m_M_init) 360 = .ok (.putfield 143, 3) := by decide +kernel
theorem d_M_init_363 : decode (mC m_M_init) 363 = .ok (.aload_n 0, 1) := by decide +kernel
theorem d_M_init_364 : decode (mC m_M_init) 364 = .ok (.bipush (60), 2) := by decide +kernel
theorem d_M_init_366 : decode (mC m_M_init) 366 = .ok (.newarray .boolean, 2) := by decide +kernel
theorem d_M_init_368 : decode (mC m_M_init) 368 = .ok (.putfield 146, 3) := by decide +kernel
theorem d_M_init_371 : decode (mC m_M_init) 371 = .ok (.aload_n 0, 1) := by decide +kernel
theorem d_M_init_372 : decode (mC m_M_init) 372 = .ok (.sipush (200), 3) := by decide +kernel
theorem d_M_init_375 : decode (mC m_M_init) 375 = .ok (.newarray .int, 2) := by decide +kernel
theorem d_M_init_377 : decode (mC m_M_init) 377 = .ok (.putfield 149, 3) := by decide +kernel
theorem d_M_init_380 : decode (mC m_M_init) 380 = .ok (.aload_n 0, 1) := by decide +kernel
theorem d_M_init_381 : decode (mC m_M_init) 381 = .ok (.sipush (200), 3) := by decide +kernel
theorem d_M_init_384 : decode (mC m_M_init) 384 = .ok (.newarray .int, 2) := by decide +kernel
theorem d_M_init_386 : decode (mC m_M_init) 386 = .ok (.putfield 152, 3) := by decide +kernel
theorem d_M_init_389 : decode (mC m_M_init) 389 = .ok (.aload_n 0, 1) := by decide +kernel
theorem d_M_init_390 : decode (mC m_M_init) 390 = .ok (.sipush (200), 3) := by decide +kernel
theorem d_M_init_393 : decode (mC m_M_init) 393 = .ok (.newarray .int, 2) := by decide +kernel
theorem d_M_init_395 : decode (mC m_M_init) 395 = .ok (.putfield 155, 3) := by decide +kernel
theorem d_M_init_398 : decode (mC m_M_init) 398 = .ok (.aload_n 0, 1) := by decide +kernel
theorem d_M_init_399 : decode (mC m_M_init) 399 = .ok (.sipush (200), 3) := by decide +kernel
theorem d_M_init_402 : decode (mC m_M_init) 402 = .ok (.newarray .int, 2) := by decide +kernel
theorem d_M_init_404 : decode (mC m_M_init) 404 = .ok (.putfield 158, 3) := by decide +kernel
theorem d_M_init_407 : decode (mC m_M_init) 407 = .ok (.aload_n 0, 1) := by decide +kernel
theorem d_M_init_408 : decode (mC m_M_init) 408 = .ok (.sipush (200), 3) := by decide +kernel
theorem d_M_init_411 : decode (mC m_M_init) 411 = .ok (.newarray .int, 2) := by decide +kernel
theorem d_M_init_413 : decode (mC m_M_init) 413 = .ok (.putfield 161, 3) := by decide +kernel
theorem d_M_init_416 : decode (mC m_M_init) 416 = .ok (.aload_n 0, 1) := by decide +kernel
theorem d_M_init_417 : decode (mC m_M_init) 417 = .ok (.sipush (200), 3) := by decide +kernel
theorem d_M_init_420 : decode (mC m_M_init) 420 = .ok (.newarray .int, 2) := by decide +kernel
theorem d_M_init_422 : decode (mC m_M_init) 422 = .ok (.putfield 164, 3) := by decide +kernel
theorem d_M_init_425 : decode (mC m_M_init) 425 = .ok (.aload_n 0, 1) := by decide +kernel
theorem d_M_init_426 : decode (mC m_M_init) 426 = .ok (.sipush (200), 3) := by decide +kernel
theorem d_M_init_429 : decode (mC m_M_init) 429 = .ok (.newarray .int, 2) := by decide +kernel
theorem d_M_init_431 : decode (mC m_M_init) 431 = .ok (.putfield 167, 3) := by decide +kernel
theorem d_M_init_434 : decode (mC m_M_init) 434 = .ok (.aload_n 0, 1) := by decide +kernel
theorem d_M_init_435 : decode (mC m_M_init) 435 = .ok (.iconst 1, 1) := by decide +kernel
theorem d_M_init_436 : decode (mC m_M_init) 436 = .ok (.putfield 170, 3) := by decide +kernel
theorem d_M_init_439 : decode (mC m_M_init) 439 = .ok (.aload_n 0, 1) := by decide +kernel
theorem d_M_init_440 : decode (mC m_M_init) 440 = .ok (.iconst (-1), 1) := by decide +kernel
theorem d_M_init_441 : decode (mC m_M_init) 441 = .ok (.putfield 174, 3) := by decide +kernel
theorem d_M_init_444 : decode (mC m_M_init) 444 = .ok (.aload_n 0, 1) := by decide +kernel
theorem d_M_init_445 : decode (mC m_M_init) 445 = .ok (.bipush (20), 2) := by decide +kernel
theorem d_M_init_447 : decode (mC m_M_init) 447 = .ok (.newarray .boolean, 2) := by decide +kernel
theorem d_M_init_449 : decode (mC m_M_init) 449 = .ok (.putfield 177, 3) := by decide +kernel
theorem d_M_init_452 : decode (mC m_M_init) 452 = .ok (.aload_n 0, 1) := by decide +kernel
theorem d_M_init_453 : decode (mC m_M_init) 453 = .ok (.bipush (20), 2) := by decide +kernel
theorem d_M_init_455 : decode (mC m_M_init) 455 = .ok (.newarray .int, 2) := by decide +kernel
theorem d_M_init_457 : decode (mC m_M_init) 457 = .ok (.putfield 180, 3) := by decide +kernel
theorem d_M_init_460 : decode (mC m_M_init) 460 = .ok (.aload_n 0, 1) := by decide +kernel
theorem d_M_init_461 : decode (mC m_M_init) 461 = .ok (.iconst 4, 1) := by decide +kernel
theorem d_M_init_462 : decode (mC m_M_init) 462 = .ok (.newarray .boolean, 2) := by decide +kernel
theorem d_M_init_464 : decode (mC m_M_init) 464 = .ok (.putfield 183, 3) := by decide +kernel
theorem d_M_init_467 : decode (mC m_M_init) 467 = .ok (.aload_n 0, 1) := by decide +kernel
theorem d_M_init_468 : decode (mC m_M_init) 468 = .ok (.iconst 4, 1) := by decide +kernel
theorem d_M_init_469 : decode (mC m_M_init) 469 = .ok (.newarray .int, 2) := by decide +kernel
theorem d_M_init_471 : decode (mC m_M_init) 471 = .ok (.putfield 186, 3) := by decide +kernel
theorem d_M_init_474 : decode (mC m_M_init) 474 = .ok (.aload_n 0, 1) := by decide +kernel
theorem d_M_init_475 : decode (mC m_M_init) 475 = .ok (.iconst 4, 1) := by decide +kernel
theorem d_M_init_476 : decode (mC m_M_init) 476 = .ok (.newarray .int, 2) := by decide +kernel
theorem d_M_init_478 : decode (mC m_M_init) 478 = .ok (.putfield 189, 3) := by decide +kernel
theorem d_M_init_481 : decode (mC m_M_init) 481 = .ok (.aload_n 0, 1) := by decide +kernel
theorem d_M_init_482 : decode (mC m_M_init) 482 = .ok (.sipush (240), 3) := by decide +kernel
theorem d_M_init_485 : decode (mC m_M_init) 485 = .ok (.newarray .boolean, 2) := by decide +kernel
theorem d_M_init_487 : decode (mC m_M_init) 487 = .ok (.putfield 192, 3) := by decide +kernel
theorem d_M_init_490 : decode (mC m_M_init) 490 = .ok (.aload_n 0, 1) := by decide +kernel
theorem d_M_init_491 : decode (mC m_M_init) 491 = .ok (.bipush (20), 2) := by decide +kernel
theorem d_M_init_493 : decode (mC m_M_init) 493 = .ok (.newarray .int, 2) := by decide +kernel
theorem d_M_init_495 : decode (mC m_M_init) 495 = .ok (.putfield 195, 3) := by decide +kernel
theorem d_M_init_498 : decode (mC m_M_init) 498 = .ok (.aload_n 0, 1) := by decide +kernel
theorem d_M_init_499 : decode (mC m_M_init) 499 = .ok (.bipush (20), 2) := by decide +kernel
theorem d_M_init_501 : decode (mC m_M_init) 501 = .ok (.newarray .int, 2) := by decide +kernel
theorem d_M_init_503 : decode (mC m_M_init) 503 = .ok (.putfield 198, 3) := by decide +kernel
theorem d_M_init_506 : decode (mC m_M_init) 506 = .ok (.aload_n 0, 1) := by decide +kernel
theorem d_M_init_507 : decode (mC m_M_init) 507 = .ok (.bipush (20), 2) := by decide +kernel
theorem d_M_init_509 : decode (mC m_M_init) 509 = .ok (.newarray .boolean, 2) := by decide +kernel
theorem d_M_init_511 : decode (mC m_M_init) 511 = .ok (.putfield 201, 3) := by decide +kernel
theorem d_M_init_514 : decode (mC m_M_init) 514 = .ok (.aload_n 0, 1) := by decide +kernel
theorem d_M_init_515 : decode (mC m_M_init) 515 = .ok (.bipush (20), 2) := by decide +kernel
theorem d_M_init_517 : decode (mC m_M_init) 517 = .ok (.newarray .int, 2) := by decide +kernel
theorem d_M_init_519 : decode (mC m_M_init) 519 = .ok (.putfield 204, 3) := by decide +kernel
theorem d_M_init_522 : decode (mC m_M_init) 522 = .ok (.aload_n 0, 1) := by decide +kernel
theorem d_M_init_523 : decode (mC m_M_init) 523 = .ok (.bipush (20), 2) := by decide +kernel
theorem d_M_init_525 : decode (mC m_M_init) 525 = .ok (.newarray .int, 2) := by decide +kernel
theorem d_M_init_527 : decode (mC m_M_init) 527 = .ok (.putfield 207, 3) := by decide +kernel
theorem d_M_init_530 : decode (mC m_M_init) 530 = .ok (.aload_n 0, 1) := by decide +kernel
theorem d_M_init_531 : decode (mC m_M_init) 531 = .ok (.bipush (6), 2) := by decide +kernel
theorem d_M_init_533 : decode (mC m_M_init) 533 = .ok (.newarray .int, 2) := by decide +kernel
theorem d_M_init_535 : decode (mC m_M_init) 535 = .ok (.putfield 210, 3) := by decide +kernel
theorem d_M_init_538 : decode (mC m_M_init) 538 = .ok (.aload_n 0, 1) := by decide +kernel
theorem d_M_init_539 : decode (mC m_M_init) 539 = .ok (.sipush (1200), 3) := by decide +kernel
theorem d_M_init_542 : decode (mC m_M_init) 542 = .ok (.newarray .int, 2) := by decide +kernel
theorem d_M_init_544 : decode (mC m_M_init) 544 = .ok (.putfield 213, 3) := by decide +kernel
theorem d_M_init_547 : decode (mC m_M_init) 547 = .ok (.aload_n 0, 1) := by decide +kernel
theorem d_M_init_548 : decode (mC m_M_init) 548 = .ok (.sipush (1200), 3) := by decide +kernel
theorem d_M_init_551 : decode (mC m_M_init) 551 = .ok (.newarray .int, 2) := by decide +kernel
theorem d_M_init_553 : decode (mC m_M_init) 553 = .ok (.putfield 216, 3) := by decide +kernel
theorem d_M_init_556 : decode (mC m_M_init) 556 = .ok (.aload_n 0, 1) := by decide +kernel
theorem d_M_init_557 : decode (mC m_M_init) 557 = .ok (.sipush (1200), 3) := by decide +kernel
theorem d_M_init_560 : decode (mC m_M_init) 560 = .ok (.newarray .int, 2) := by decide +kernel
theorem d_M_init_562 : decode (mC m_M_init) 562 = .ok (.putfield 219, 3) := by decide +kernel
theorem d_M_init_565 : decode (mC m_M_init) 565 = .ok (.aload_n 0, 1) := by decide +kernel
theorem d_M_init_566 : decode (mC m_M_init) 566 = .ok (.bipush (7), 2) := by decide +kernel
theorem d_M_init_568 : decode (mC m_M_init) 568 = .ok (.putfield 222, 3) := by decide +kernel
theorem d_M_init_571 : decode (mC m_M_init) 571 = .ok (.iconst 0, 1) := by decide +kernel
theorem d_M_init_572 : decode (mC m_M_init) 572 = .ok (.istore_n 1, 1) := by decide +kernel
theorem d_M_init_573 : decode (mC m_M_init) 573 = .ok (.iload_n 1, 1) := by decide +kernel
theorem d_M_init_574 : decode (mC m_M_init) 574 = .ok (.bipush (18), 2) := by decide +kernel
theorem d_M_init_576 : decode (mC m_M_init) 576 = .ok (.if_icmp .ge (18), 3) := by decide +kernel
theorem d_M_init_579 : decode (mC m_M_init) 579 = .ok (.aload_n 0, 1) := by decide +kernel
theorem d_M_init_580 : decode (mC m_M_init) 580 = .ok (.getfield 19, 3) := by decide +kernel
theorem d_M_init_583 : decode (mC m_M_init) 583 = .ok (.iload_n 1, 1) := by decide +kernel
theorem d_M_init_584 : decode (mC m_M_init) 584 = .ok (.sipush (-1000), 3) := by decide +kernel
theorem d_M_init_587 : decode (mC m_M_init) 587 = .ok (.iastore, 1) := by decide +kernel
theorem d_M_init_588 : decode (mC m_M_init) 588 = .ok (.iinc 1 (1), 3) := by decide +kernel
theorem d_M_init_591 : decode (mC m_M_init) 591 = .ok (.goto (-18), 3) := by decide +kernel
theorem d_M_init_594 : decode (mC m_M_init) 594 = .ok (.aload_n 0, 1) := by decide +kernel
theorem d_M_init_595 : decode (mC m_M_init) 595 = .ok (.getfield 56, 3) := by decide +kernel
theorem d_M_init_598 : decode (mC m_M_init) 598 = .ok (.iconst 0, 1) := by decide +kernel
theorem d_M_init_599 : decode (mC m_M_init) 599 = .ok (.iconst 2, 1) := by decide +kernel
theorem d_M_init_600 : decode (mC m_M_init) 600 = .ok (.iastore, 1) := by decide +kernel
theorem d_M_init_601 : decode (mC m_M_init) 601 = .ok (.aload_n 0, 1) := by decide +kernel
theorem d_M_init_602 : decode (mC m_M_init) 602 = .ok (.getfield 56, 3) := by decide +kernel
theorem d_M_init_605 : decode (mC m_M_init) 605 = .ok (.iconst 1, 1) := by decide +kernel
theorem d_M_init_606 : decode (mC m_M_init) 606 = .ok (.iconst 1, 1) := by decide +kernel
theorem d_M_init_607 : decode (mC m_M_init) 607 = .ok (.iastore, 1) := by decide +kernel
theorem d_M_init_608 : decode (mC m_M_init) 608 = .ok (.aload_n 0, 1) := by decide +kernel
theorem d_M_init_609 : decode (mC m_M_init) 609 = .ok (.getfield 56, 3) := by decide +kernel
theorem d_M_init_612 : decode (mC m_M_init) 612 = .ok (.iconst 2, 1) := by decide +kernel
theorem d_M_init_613 : decode (mC m_M_init) 613 = .ok (.iconst 1, 1) := by decide +kernel
theorem d_M_init_614 : decode (mC m_M_init) 614 = .ok (.iastore, 1) := by decide +kernel
theorem d_M_init_615 : decode (mC m_M_init) 615 = .ok (.iconst 0, 1) := by decide +kernel
theorem d_M_init_616 : decode (mC m_M_init) 616 = .ok (.istore_n 1, 1) := by decide +kernel
theorem d_M_init_617 : decode (mC m_M_init) 617 = .ok (.iload_n 1, 1) := by decide +kernel
theorem d_M_init_618 : decode (mC m_M_init) 618 = .ok (.iconst 3, 1) := by decide +kernel
theorem d_M_init_619 : decode (mC m_M_init) 619 = .ok (.if_icmp .ge (16), 3) := by decide +kernel
theorem d_M_init_622 : decode (mC m_M_init) 622 = .ok (.aload_n 0, 1) := by decide +kernel
theorem d_M_init_623 : decode (mC m_M_init) 623 = .ok (.getfield 59, 3) := by decide +kernel
theorem d_M_init_626 : decode (mC m_M_init) 626 = .ok (.iload_n 1, 1) := by decide +kernel
theorem d_M_init_627 : decode (mC m_M_init) 627 = .ok (.iconst (-1), 1) := by decide +kernel
theorem d_M_init_628 : decode (mC m_M_init) 628 = .ok (.iastore, 1) := by decide +kernel
theorem d_M_init_629 : decode (mC m_M_init) 629 = .ok (.iinc 1 (1), 3) := by decide +kernel
theorem d_M_init_632 : decode (mC m_M_init) 632 = .ok (.goto (-15), 3) := by decide +kernel
theorem d_M_init_635 : decode (mC m_M_init) 635 = .ok (.iconst 0, 1) := by decide +kernel
theorem d_M_init_636 : decode (mC m_M_init) 636 = .ok (.istore_n 1, 1) := by decide +kernel
theorem d_M_init_637 : decode (mC m_M_init) 637 = .ok (.iload_n 1, 1) := by decide +kernel
theorem d_M_init_638 : decode (mC m_M_init) 638 = .ok (.iconst 4, 1) := by decide +kernel
theorem d_M_init_639 : decode (mC m_M_init) 639 = .ok (.if_icmp .ge (16), 3) := by decide +kernel
theorem d_M_init_642 : decode (mC m_M_init) 642 = .ok (.aload_n 0, 1) := by decide +kernel
theorem d_M_init_643 : decode (mC m_M_init) 643 = .ok (.getfield 186, 3) := by decide +kernel
theorem d_M_init_646 : decode (mC m_M_init) 646 = .ok (.iload_n 1, 1) := by decide +kernel
theorem d_M_init_647 : decode (mC m_M_init) 647 = .ok (.iconst 1, 1) := by decide +kernel
theorem d_M_init_648 : decode (mC m_M_init) 648 = .ok (.iastore, 1) := by decide +kernel
theorem d_M_init_649 : decode (mC m_M_init) 649 = .ok (.iinc 1 (1), 3) := by decide +kernel
theorem d_M_init_652 : decode (mC m_M_init) 652 = .ok (.goto (-15), 3) := by decide +kernel
theorem d_M_init_655 : decode (mC m_M_init) 655 = .ok (.iconst 0, 1) := by decide +kernel
theorem d_M_init_656 : decode (mC m_M_init) 656 = .ok (.istore_n 1, 1) := by decide +kernel
theorem d_M_init_657 : decode (mC m_M_init) 657 = .ok (.iload_n 1, 1) := by decide +kernel
theorem d_M_init_658 : decode (mC m_M_init) 658 = .ok (.bipush (20), 2) := by decide +kernel
theorem d_M_init_660 : decode (mC m_M_init) 660 = .ok (.if_icmp .ge (16), 3) := by decide +kernel
theorem d_M_init_663 : decode (mC m_M_init) 663 = .ok (.aload_n 0, 1) := by decide +kernel
theorem d_M_init_664 : decode (mC m_M_init) 664 = .ok (.getfield 180, 3) := by decide +kernel
theorem d_M_init_667 : decode (mC m_M_init) 667 = .ok (.iload_n 1, 1) := by decide +kernel
theorem d_M_init_668 : decode (mC m_M_init) 668 = .ok (.iconst (-1), 1) := by decide +kernel
theorem d_M_init_669 : decode (mC m_M_init) 669 = .ok (.iastore, 1) := by decide +kernel
theorem d_M_init_670 : decode (mC m_M_init) 670 = .ok (.iinc 1 (1), 3) := by decide +kernel
theorem d_M_init_673 : decode (mC m_M_init) 673 = .ok (.goto (-16), 3) := by decide +kernel
theorem d_M_init_676 : decode (mC m_M_init) 676 = .ok (.iconst 0, 1) := by decide +kernel
theorem d_M_init_677 : decode (mC m_M_init) 677 = .ok (.istore_n 1, 1) := by decide +kernel
theorem d_M_init_678 : decode (mC m_M_init) 678 = .ok (.iload_n 1, 1) := by decide +kernel
theorem d_M_init_679 : decode (mC m_M_init) 679 = .ok (.bipush (6), 2) := by decide +kernel
theorem d_M_init_681 : decode (mC m_M_init) 681 = .ok (.if_icmp .ge (16), 3) := by decide +kernel
theorem d_M_init_684 : decode (mC m_M_init) 684 = .ok (.aload_n 0, 1) := by decide +kernel
theorem d_M_init_685 : decode (mC m_M_init) 685 = .ok (.getfield 210, 3) := by decide +kernel
theorem d_M_init_688 : decode (mC m_M_init) 688 = .ok (.iload_n 1, 1) := by decide +kernel
theorem d_M_init_689 : decode (mC m_M_init) 689 = .ok (.iconst (-1), 1) := by decide +kernel
theorem d_M_init_690 : decode (mC m_M_init) 690 = .ok (.iastore, 1) := by decide +kernel
theorem d_M_init_691 : decode (mC m_M_init) 691 = .ok (.iinc 1 (1), 3) := by decide +kernel
theorem d_M_init_694 : decode (mC m_M_init) 694 = .ok (.goto (-16), 3) := by decide +kernel
theorem d_M_init_697 : decode (mC m_M_init) 697 = .ok (.return_, 1) := by decide +kernel
theorem d_K_isWithin_0 : decode (mC m_K_isWithin) 0 = .ok (.iload_n 0, 1) := by decide +kernel
theorem d_K_isWithin_1 : decode (mC m_K_isWithin) 1 = .ok (.iload_n 1, 1) := by decide +kernel
theorem d_K_isWithin_2 : decode (mC m_K_isWithin) 2 = .ok (.if_icmp .lt (12), 3) := by decide +kernel
theorem d_K_isWithin_5 : decode (mC m_K_isWithin) 5 = .ok (.iload_n 0, 1) := by decide +kernel
theorem d_K_isWithin_6 : decode (mC m_K_isWithin) 6 = .ok (.iload_n 2, 1) := by decide +kernel
theorem d_K_isWithin_7 : decode (mC m_K_isWithin) 7 = .ok (.if_icmp .gt (7), 3) := by decide +kernel
theorem d_K_isWithin_10 : decode (mC m_K_isWithin) 10 = .ok (.iconst 1, 1) := by decide +kernel
theorem d_K_isWithin_11 : decode (mC m_K_isWithin) 11 = .ok (.goto (4), 3) := by decide +kernel
theorem d_K_isWithin_14 : decode (mC m_K_isWithin) 14 = .ok (.iconst 0, 1) := by decide +kernel
theorem d_K_isWithin_15 : decode (mC m_K_isWithin) 15 = .ok (.ireturn, 1) := by decide +kernel
theorem d_K_requireArgument_0 : decode (mC m_K_requireArgument) 0 = .ok (.iload_n 0, 1) := by decide +kernel
theorem d_K_requireArgument_1 : decode (mC m_K_requireArgument) 1 = .ok (.ifCond .ne (11), 3) := by decide +kernel
theorem d_K_requireArgument_4 : decode (mC m_K_requireArgument) 4 = .ok (.new 447, 3) := by decide +kernel
theorem d_K_requireArgument_7 : decode (mC m_K_requireArgument) 7 = .ok (.dup, 1) := by decide +kernel
theorem d_K_requireArgument_8 : decode (mC m_K_requireArgument) 8 = .ok (.invokespecial 449, 3) := by decide +kernel
theorem d_K_requireArgument_11 : decode (mC m_K_requireArgument) 11 = .ok (.athrow, 1) := by decide +kernel
theorem d_K_requireArgument_12 : decode (mC m_K_requireArgument) 12 = .ok (.return_, 1) := by decide +kernel
theorem d_K_requireState_0 : decode (mC m_K_requireState) 0 = .ok (.iload_n 0, 1) := by decide +kernel
theorem d_K_requireState_1 : decode (mC m_K_requireState) 1 = .ok (.ifCond .ne (11), 3) := by decide +kernel
theorem d_K_requireState_4 : decode (mC m_K_requireState) 4 = .ok (.new 450, 3) := by decide +kernel
theorem d_K_requireState_7 : decode (mC m_K_requireState) 7 = .ok (.dup, 1) := by decide +kernel
theorem d_K_requireState_8 : decode (mC m_K_requireState) 8 = .ok (.invokespecial 452, 3) := by decide +kernel
theorem d_K_requireState_11 : decode (mC m_K_requireState) 11 = .ok (.athrow, 1) := by decide +kernel
theorem d_K_requireState_12 : decode (mC m_K_requireState) 12 = .ok (.return_, 1) := by decide +kernel
theorem d_Keyring_isDueToSign_0 : decode (mC m_Keyring_isDueToSign) 0 = .ok (.aload_n 0, 1) := by decide +kernel
theorem d_Keyring_isDueToSign_1 : decode (mC m_Keyring_isDueToSign) 1 = .ok (.getfield 15, 3) := by decide +kernel
theorem d_Keyring_isDueToSign_4 : decode (mC m_Keyring_isDueToSign) 4 = .ok (.iconst (-1), 1) := by decide +kernel
theorem d_Keyring_isDueToSign_5 : decode (mC m_Keyring_isDueToSign) 5 = .ok (.if_icmp .eq (15), 3) := by decide +kernel
theorem d_Keyring_isDueToSign_8 : decode (mC m_Keyring_isDueToSign) 8 = .ok (.iload_n 1, 1) := by decide +kernel
theorem d_Keyring_isDueToSign_9 : decode (mC m_Keyring_isDueToSign) 9 = .ok (.aload_n 0, 1) := by decide +kernel
theorem d_Keyring_isDueToSign_10 : decode (mC m_Keyring_isDueToSign) 10 = .ok (.getfield 29, 3) := by decide +kernel
theorem d_Keyring_isDueToSign_13 : decode (mC m_Keyring_isDueToSign) 13 = .ok (.if_icmp .lt (7), 3) := by decide +kernel
theorem d_Keyring_isDueToSign_16 : decode (mC m_Keyring_isDueToSign) 16 = .ok (.iconst 1, 1) := by decide +kernel
theorem d_Keyring_isDueToSign_17 : decode (mC m_Keyring_isDueToSign) 17 = .ok (.goto (4), 3) := by decide +kernel
theorem d_Keyring_isDueToSign_20 : decode (mC m_Keyring_isDueToSign) 20 = .ok (.iconst 0, 1) := by decide +kernel
theorem d_Keyring_isDueToSign_21 : decode (mC m_Keyring_isDueToSign) 21 = .ok (.ireturn, 1) := by decide +kernel
theorem d_Keyring_putWaitingToSign_0 : decode (mC m_Keyring_putWaitingToSign) 0 = .ok (.aload_n 0, 1) := by decide +kernel
theorem d_Keyring_putWaitingToSign_1 : decode (mC m_Keyring_putWaitingToSign) 1 = .ok (.getfield 32, 3) := by decide +kernel
theorem d_Keyring_putWaitingToSign_4 : decode (mC m_Keyring_putWaitingToSign) 4 = .ok (.ifCond .lt (25), 3) := by decide +kernel
theorem d_Keyring_putWaitingToSign_7 : decode (mC m_Keyring_putWaitingToSign) 7 = .ok (.aload_n 0, 1) := by decide +kernel
theorem d_Keyring_putWaitingToSign_8 : decode (mC m_Keyring_putWaitingToSign) 8 = .ok (.getfield 32, 3) := by decide +kernel
theorem d_Keyring_putWaitingToSign_11 : decode (mC m_Keyring_putWaitingToSign) 11 = .ok (.bipush (20), 2) := by decide +kernel
theorem d_Keyring_putWaitingToSign_13 : decode (mC m_Keyring_putWaitingToSign) 13 = .ok (.if_icmp .ge (16), 3) := by decide +kernel
theorem d_Keyring_putWaitingToSign_16 : decode (mC m_Keyring_putWaitingToSign) 16 = .ok (.aload_n 0, 1) := by decide +kernel
theorem d_Keyring_putWaitingToSign_17 : decode (mC m_Keyring_putWaitingToSign) 17 = .ok (.getfield 21, 3) := by decide +kernel
theorem d_Keyring_putWaitingToSign_20 : decode (mC m_Keyring_putWaitingToSign) 20 = .ok (.aload_n 0, 1) := by decide +kernel
theorem d_Keyring_putWaitingToSign_21 : decode (mC m_Keyring_putWaitingToSign) 21 = .ok (.getfield 32, 3) := by decide +kernel
theorem d_Keyring_putWaitingToSign_24 : decode (mC m_Keyring_putWaitingToSign) 24 = .ok (.iload_n 1, 1) := by decide +kernel
theorem d_Keyring_putWaitingToSign_25 : decode (mC m_Keyring_putWaitingToSign) 25 = .ok (.bipush (20), 2) := by decide +kernel
theorem d_Keyring_putWaitingToSign_27 : decode (mC m_Keyring_putWaitingToSign) 27 = .ok (.iadd, 1) := by decide +kernel
theorem d_Keyring_putWaitingToSign_28 : decode (mC m_Keyring_putWaitingToSign) 28 = .ok (.iastore, 1) := by decide +kernel
theorem d_Keyring_putWaitingToSign_29 : decode (mC m_Keyring_putWaitingToSign) 29 = .ok (.aload_n 0, 1) := by decide +kernel
theorem d_Keyring_putWaitingToSign_30 : decode (mC m_Keyring_putWaitingToSign) 30 = .ok (.aload_n 0, 1) := by decide +kernel
theorem d_Keyring_putWaitingToSign_31 : decode (mC m_Keyring_putWaitingToSign) 31 = .ok (.getfield 15, 3) := by decide +kernel
theorem d_Keyring_putWaitingToSign_34 : decode (mC m_Keyring_putWaitingToSign) 34 = .ok (.putfield 32, 3) := by decide +kernel
theorem d_Keyring_putWaitingToSign_37 : decode (mC m_Keyring_putWaitingToSign) 37 = .ok (.aload_n 0, 1) := by decide +kernel
theorem d_Keyring_putWaitingToSign_38 : decode (mC m_Keyring_putWaitingToSign) 38 = .ok (.iconst (-1), 1) := by decide +kernel
theorem d_Keyring_putWaitingToSign_39 : decode (mC m_Keyring_putWaitingToSign) 39 = .ok (.putfield 15, 3) := by decide +kernel
theorem d_Keyring_putWaitingToSign_42 : decode (mC m_Keyring_putWaitingToSign) 42 = .ok (.return_, 1) := by decide +kernel
theorem d_Audit_totalWith_0 : decode (mC m_Audit_totalWith) 0 = .ok (.iload_n 2, 1) := by decide +kernel
theorem d_Audit_totalWith_1 : decode (mC m_Audit_totalWith) 1 = .ok (.ifCond .lt (10), 3) := by decide +kernel
theorem d_Audit_totalWith_4 : decode (mC m_Audit_totalWith) 4 = .ok (.iload_n 2, 1) := by decide +kernel
theorem d_Audit_totalWith_5 : decode (mC m_Audit_totalWith) 5 = .ok (.sipush (1024), 3) := by decide +kernel
theorem d_Audit_totalWith_8 : decode (mC m_Audit_totalWith) 8 = .ok (.if_icmp .lt (5), 3) := by decide +kernel
theorem d_Audit_totalWith_11 : decode (mC m_Audit_totalWith) 11 = .ok (.iload_n 1, 1) := by decide +kernel
theorem d_Audit_totalWith_12 : decode (mC m_Audit_totalWith) 12 = .ok (.ireturn, 1) := by decide +kernel
theorem d_Audit_totalWith_13 : decode (mC m_Audit_totalWith) 13 = .ok (.aload_n 0, 1) := by decide +kernel
theorem d_Audit_totalWith_14 : decode (mC m_Audit_totalWith) 14 = .ok (.getfield 9, 3) := by decide +kernel
theorem d_Audit_totalWith_17 : decode (mC m_Audit_totalWith) 17 = .ok (.iload_n 2, 1) := by decide +kernel
theorem d_Audit_totalWith_18 : decode (mC m_Audit_totalWith) 18 = .ok (.iaload, 1) := by decide +kernel
theorem d_Audit_totalWith_19 : decode (mC m_Audit_totalWith) 19 = .ok (.sipush (1000), 3) := by decide +kernel
theorem d_Audit_totalWith_22 : decode (mC m_Audit_totalWith) 22 = .ok (.idiv, 1) := by decide +kernel
theorem d_Audit_totalWith_23 : decode (mC m_Audit_totalWith) 23 = .ok (.istore_n 3, 1) := by decide +kernel
theorem d_Audit_totalWith_24 : decode (mC m_Audit_totalWith) 24 = .ok (.aload_n 0, 1) := by decide +kernel
theorem d_Audit_totalWith_25 : decode (mC m_Audit_totalWith) 25 = .ok (.getfield 9, 3) := by decide +kernel
theorem d_Audit_totalWith_28 : decode (mC m_Audit_totalWith) 28 = .ok (.iload_n 2, 1) := by decide +kernel
theorem d_Audit_totalWith_29 : decode (mC m_Audit_totalWith) 29 = .ok (.iaload, 1) := by decide +kernel
theorem d_Audit_totalWith_30 : decode (mC m_Audit_totalWith) 30 = .ok (.sipush (1000), 3) := by decide +kernel
theorem d_Audit_totalWith_33 : decode (mC m_Audit_totalWith) 33 = .ok (.irem, 1) := by decide +kernel
theorem d_Audit_totalWith_34 : decode (mC m_Audit_totalWith) 34 = .ok (.istore 4, 2) := by decide +kernel
theorem d_Audit_totalWith_36 : decode (mC m_Audit_totalWith) 36 = .ok (.bipush (31), 2) := by decide +kernel
theorem d_Audit_totalWith_38 : decode (mC m_Audit_totalWith) 38 = .ok (.iload_n 1, 1) := by decide +kernel
theorem d_Audit_totalWith_39 : decode (mC m_Audit_totalWith) 39 = .ok (.imul, 1) := by decide +kernel
theorem d_Audit_totalWith_40 : decode (mC m_Audit_totalWith) 40 = .ok (.bipush (100), 2) := by decide +kernel
theorem d_Audit_totalWith_42 : decode (mC m_Audit_totalWith) 42 = .ok (.iload_n 3, 1) := by decide +kernel
theorem d_Audit_totalWith_43 : decode (mC m_Audit_totalWith) 43 = .ok (.imul, 1) := by decide +kernel
theorem d_Audit_totalWith_44 : decode (mC m_Audit_totalWith) 44 = .ok (.iadd, 1) := by decide +kernel
theorem d_Audit_totalWith_45 : decode (mC m_Audit_totalWith) 45 = .ok (.iload 4, 2) := by decide +kernel
theorem d_Audit_totalWith_47 : decode (mC m_Audit_totalWith) 47 = .ok (.iadd, 1) := by decide +kernel
theorem d_Audit_totalWith_48 : decode (mC m_Audit_totalWith) 48 = .ok (.aload_n 0, 1) := by decide +kernel
theorem d_Audit_totalWith_49 : decode (mC m_Audit_totalWith) 49 = .ok (.getfield 13, 3) := by decide +kernel
theorem d_Audit_totalWith_52 : decode (mC m_Audit_totalWith) 52 = .ok (.iload_n 2, 1) := by decide +kernel
theorem d_Audit_totalWith_53 : decode (mC m_Audit_totalWith) 53 = .ok (.iaload, 1) := by decide +kernel
theorem d_Audit_totalWith_54 : decode (mC m_Audit_totalWith) 54 = .ok (.iadd, 1) := by decide +kernel
theorem d_Audit_totalWith_55 : decode (mC m_Audit_totalWith) 55 = .ok (.ldc 31, 2) := by decide +kernel
theorem d_Audit_totalWith_57 : decode (mC m_Audit_totalWith) 57 = .ok (.irem, 1) := by decide +kernel
theorem d_Audit_totalWith_58 : decode (mC m_Audit_totalWith) 58 = .ok (.ireturn, 1) := by decide +kernel
theorem d_Audit_write_0 : decode (mC m_Audit_write) 0 = .ok (.aload_n 0, 1) := by decide +kernel
theorem d_Audit_write_1 : decode (mC m_Audit_write) 1 = .ok (.getfield 20, 3) := by decide +kernel
theorem d_Audit_write_4 : decode (mC m_Audit_write) 4 = .ok (.ifCond .lt (13), 3) := by decide +kernel
theorem d_Audit_write_7 : decode (mC m_Audit_write) 7 = .ok (.aload_n 0, 1) := by decide +kernel
theorem d_Audit_write_8 : decode (mC m_Audit_write) 8 = .ok (.getfield 20, 3) := by decide +kernel
theorem d_Audit_write_11 : decode (mC m_Audit_write) 11 = .ok (.sipush (1024), 3) := by decide +kernel
theorem d_Audit_write_14 : decode (mC m_Audit_write) 14 = .ok (.if_icmp .lt (4), 3) := by decide +kernel
theorem d_Audit_write_17 : decode (mC m_Audit_write) 17 = .ok (.return_, 1) := by decide +kernel
theorem d_Audit_write_18 : decode (mC m_Audit_write) 18 = .ok (.aload_n 0, 1) := by decide +kernel
theorem d_Audit_write_19 : decode (mC m_Audit_write) 19 = .ok (.getfield 9, 3) := by decide +kernel
theorem d_Audit_write_22 : decode (mC m_Audit_write) 22 = .ok (.aload_n 0, 1) := by decide +kernel
theorem d_Audit_write_23 : decode (mC m_Audit_write) 23 = .ok (.getfield 20, 3) := by decide +kernel
theorem d_Audit_write_26 : decode (mC m_Audit_write) 26 = .ok (.sipush (1000), 3) := by decide +kernel
theorem d_Audit_write_29 : decode (mC m_Audit_write) 29 = .ok (.iload_n 1, 1) := by decide +kernel
theorem d_Audit_write_30 : decode (mC m_Audit_write) 30 = .ok (.imul, 1) := by decide +kernel
theorem d_Audit_write_31 : decode (mC m_Audit_write) 31 = .ok (.iload_n 2, 1) := by decide +kernel
theorem d_Audit_write_32 : decode (mC m_Audit_write) 32 = .ok (.iadd, 1) := by decide +kernel
theorem d_Audit_write_33 : decode (mC m_Audit_write) 33 = .ok (.iastore, 1) := by decide +kernel
theorem d_Audit_write_34 : decode (mC m_Audit_write) 34 = .ok (.aload_n 0, 1) := by decide +kernel
theorem d_Audit_write_35 : decode (mC m_Audit_write) 35 = .ok (.getfield 13, 3) := by decide +kernel
theorem d_Audit_write_38 : decode (mC m_Audit_write) 38 = .ok (.aload_n 0, 1) := by decide +kernel
theorem d_Audit_write_39 : decode (mC m_Audit_write) 39 = .ok (.getfield 20, 3) := by decide +kernel
theorem d_Audit_write_42 : decode (mC m_Audit_write) 42 = .ok (.iload_n 3, 1) := by decide +kernel
theorem d_Audit_write_43 : decode (mC m_Audit_write) 43 = .ok (.iastore, 1) := by decide +kernel
theorem d_Audit_write_44 : decode (mC m_Audit_write) 44 = .ok (.aload_n 0, 1) := by decide +kernel
theorem d_Audit_write_45 : decode (mC m_Audit_write) 45 = .ok (.aload_n 0, 1) := by decide +kernel
theorem d_Audit_write_46 : decode (mC m_Audit_write) 46 = .ok (.aload_n 0, 1) := by decide +kernel
theorem d_Audit_write_47 : decode (mC m_Audit_write) 47 = .ok (.getfield 16, 3) := by decide +kernel
theorem d_Audit_write_50 : decode (mC m_Audit_write) 50 = .ok (.aload_n 0, 1) := by decide +kernel
theorem d_Audit_write_51 : decode (mC m_Audit_write) 51 = .ok (.getfield 20, 3) := by decide +kernel
theorem d_Audit_write_54 : decode (mC m_Audit_write) 54 = .ok (.invokevirtual 23, 3) := by decide +kernel
theorem d_Audit_write_57 : decode (mC m_Audit_write) 57 = .ok (.putfield 16, 3) := by decide +kernel
theorem d_Audit_write_60 : decode (mC m_Audit_write) 60 = .ok (.aload_n 0, 1) := by decide +kernel
theorem d_Audit_write_61 : decode (mC m_Audit_write) 61 = .ok (.dup, 1) := by decide +kernel
theorem d_Audit_write_62 : decode (mC m_Audit_write) 62 = .ok (.getfield 20, 3) := by decide +kernel
theorem d_Audit_write_65 : decode (mC m_Audit_write) 65 = .ok (.iconst 1, 1) := by decide +kernel
theorem d_Audit_write_66 : decode (mC m_Audit_write) 66 = .ok (.iadd, 1) := by decide +kernel
theorem d_Audit_write_67 : decode (mC m_Audit_write) 67 = .ok (.putfield 20, 3) := by decide +kernel
theorem d_Audit_write_70 : decode (mC m_Audit_write) 70 = .ok (.return_, 1) := by decide +kernel
theorem d_Keyring_retire_0 : decode (mC m_Keyring_retire) 0 = .ok (.iconst 0, 1) := by decide +kernel
theorem d_Keyring_retire_1 : decode (mC m_Keyring_retire) 1 = .ok (.istore_n 2, 1) := by decide +kernel
theorem d_Keyring_retire_2 : decode (mC m_Keyring_retire) 2 = .ok (.iload_n 2, 1) := by decide +kernel
theorem d_Keyring_retire_3 : decode (mC m_Keyring_retire) 3 = .ok (.aload_n 0, 1) := by decide +kernel
theorem d_Keyring_retire_4 : decode (mC m_Keyring_retire) 4 = .ok (.getfield 9, 3) := by decide +kernel
theorem d_Keyring_retire_7 : decode (mC m_Keyring_retire) 7 = .ok (.if_icmp .ge (39), 3) := by decide +kernel
theorem d_Keyring_retire_10 : decode (mC m_Keyring_retire) 10 = .ok (.iload_n 2, 1) := by decide +kernel
theorem d_Keyring_retire_11 : decode (mC m_Keyring_retire) 11 = .ok (.bipush (20), 2) := by decide +kernel
theorem d_Keyring_retire_13 : decode (mC m_Keyring_retire) 13 = .ok (.if_icmp .ge (33), 3) := by decide +kernel
theorem d_Keyring_retire_16 : decode (mC m_Keyring_retire) 16 = .ok (.aload_n 0, 1) := by decide +kernel
theorem d_Keyring_retire_17 : decode (mC m_Keyring_retire) 17 = .ok (.getfield 21, 3) := by decide +kernel
theorem d_Keyring_retire_20 : decode (mC m_Keyring_retire) 20 = .ok (.iload_n 2, 1) := by decide +kernel
theorem d_Keyring_retire_21 : decode (mC m_Keyring_retire) 21 = .ok (.iaload, 1) := by decide +kernel
theorem d_Keyring_retire_22 : decode (mC m_Keyring_retire) 22 = .ok (.iload_n 1, 1) := by decide +kernel
theorem d_Keyring_retire_23 : decode (mC m_Keyring_retire) 23 = .ok (.if_icmp .ne (17), 3) := by decide +kernel
theorem d_Keyring_retire_26 : decode (mC m_Keyring_retire) 26 = .ok (.aload_n 0, 1) := by decide +kernel
theorem d_Keyring_retire_27 : decode (mC m_Keyring_retire) 27 = .ok (.dup, 1) := by decide +kernel
theorem d_Keyring_retire_28 : decode (mC m_Keyring_retire) 28 = .ok (.getfield 18, 3) := by decide +kernel
theorem d_Keyring_retire_31 : decode (mC m_Keyring_retire) 31 = .ok (.iconst 1, 1) := by decide +kernel
theorem d_Keyring_retire_32 : decode (mC m_Keyring_retire) 32 = .ok (.iload_n 2, 1) := by decide +kernel
theorem d_Keyring_retire_33 : decode (mC m_Keyring_retire) 33 = .ok (.ishl, 1) := by decide +kernel
theorem d_Keyring_retire_34 : decode (mC m_Keyring_retire) 34 = .ok (.iconst (-1), 1) := by decide +kernel
theorem d_Keyring_retire_35 : decode (mC m_Keyring_retire) 35 = .ok (.ixor, 1) := by decide +kernel
theorem d_Keyring_retire_36 : decode (mC m_Keyring_retire) 36 = .ok (.iand, 1) := by decide +kernel
theorem d_Keyring_retire_37 : decode (mC m_Keyring_retire) 37 = .ok (.putfield 18, 3) := by decide +kernel
theorem d_Keyring_retire_40 : decode (mC m_Keyring_retire) 40 = .ok (.iinc 2 (1), 3) := by decide +kernel
theorem d_Keyring_retire_43 : decode (mC m_Keyring_retire) 43 = .ok (.goto (-41), 3) := by decide +kernel
theorem d_Keyring_retire_46 : decode (mC m_Keyring_retire) 46 = .ok (.return_, 1) := by decide +kernel
theorem d_K_turnKeys_0 : decode (mC m_K_turnKeys) 0 = .ok (.aload_n 0, 1) := by decide +kernel
theorem d_K_turnKeys_1 : decode (mC m_K_turnKeys) 1 = .ok (.getfield 70, 3) := by decide +kernel
theorem d_K_turnKeys_4 : decode (mC m_K_turnKeys) 4 = .ok (.aload_n 0, 1) := by decide +kernel
theorem d_K_turnKeys_5 : decode (mC m_K_turnKeys) 5 = .ok (.getfield 92, 3) := by decide +kernel
theorem d_K_turnKeys_8 : decode (mC m_K_turnKeys) 8 = .ok (.invokevirtual 459, 3) := by decide +kernel
theorem d_K_turnKeys_11 : decode (mC m_K_turnKeys) 11 = .ok (.ifCond .eq (33), 3) := by decide +kernel
theorem d_K_turnKeys_14 : decode (mC m_K_turnKeys) 14 = .ok (.aload_n 0, 1) := by decide +kernel
theorem d_K_turnKeys_15 : decode (mC m_K_turnKeys) 15 = .ok (.getfield 70, 3) := by decide +kernel
theorem d_K_turnKeys_18 : decode (mC m_K_turnKeys) 18 = .ok (.aload_n 0, 1) := by decide +kernel
theorem d_K_turnKeys_19 : decode (mC m_K_turnKeys) 19 = .ok (.getfield 92, 3) := by decide +kernel
theorem d_K_turnKeys_22 : decode (mC m_K_turnKeys) 22 = .ok (.invokevirtual 462, 3) := by decide +kernel
theorem d_K_turnKeys_25 : decode (mC m_K_turnKeys) 25 = .ok (.aload_n 0, 1) := by decide +kernel
theorem d_K_turnKeys_26 : decode (mC m_K_turnKeys) 26 = .ok (.getfield 10, 3) := by decide +kernel
theorem d_K_turnKeys_29 : decode (mC m_K_turnKeys) 29 = .ok (.iconst 5, 1) := by decide +kernel
theorem d_K_turnKeys_30 : decode (mC m_K_turnKeys) 30 = .ok (.aload_n 0, 1) := by decide +kernel
theorem d_K_turnKeys_31 : decode (mC m_K_turnKeys) 31 = .ok (.getfield 70, 3) := by decide +kernel
theorem d_K_turnKeys_34 : decode (mC m_K_turnKeys) 34 = .ok (.getfield 330, 3) := by decide +kernel
theorem d_K_turnKeys_37 : decode (mC m_K_turnKeys) 37 = .ok (.aload_n 0, 1) := by decide +kernel
theorem d_K_turnKeys_38 : decode (mC m_K_turnKeys) 38 = .ok (.getfield 92, 3) := by decide +kernel
theorem d_K_turnKeys_41 : decode (mC m_K_turnKeys) 41 = .ok (.invokevirtual 351, 3) := by decide +kernel
theorem d_K_turnKeys_44 : decode (mC m_K_turnKeys) 44 = .ok (.aload_n 0, 1) := by decide +kernel
theorem d_K_turnKeys_45 : decode (mC m_K_turnKeys) 45 = .ok (.getfield 70, 3) := by decide +kernel
theorem d_K_turnKeys_48 : decode (mC m_K_turnKeys) 48 = .ok (.aload_n 0, 1) := by decide +kernel
theorem d_K_turnKeys_49 : decode (mC m_K_turnKeys) 49 = .ok (.getfield 92, 3) := by decide +kernel
theorem d_K_turnKeys_52 : decode (mC m_K_turnKeys) 52 = .ok (.invokevirtual 465, 3) := by decide +kernel
theorem d_K_turnKeys_55 : decode (mC m_K_turnKeys) 55 = .ok (.return_, 1) := by decide +kernel
theorem d_AL_size_0 : decode (mC m_AL_size) 0 = .ok (.aload_n 0, 1) := by decide +kernel
theorem d_AL_size_1 : decode (mC m_AL_size) 1 = .ok (.getfield 48, 3) := by decide +kernel
theorem d_AL_size_4 : decode (mC m_AL_size) 4 = .ok (.ireturn, 1) := by decide +kernel
theorem d_PR_checkIndex_0 : decode (mC m_PR_checkIndex) 0 = .ok (.iload_n 0, 1) := by decide +kernel
theorem d_PR_checkIndex_1 : decode (mC m_PR_checkIndex) 1 = .ok (.ifCond .lt (8), 3) := by decide +kernel
theorem d_PR_checkIndex_4 : decode (mC m_PR_checkIndex) 4 = .ok (.iload_n 0, 1) := by decide +kernel
theorem d_PR_checkIndex_5 : decode (mC m_PR_checkIndex) 5 = .ok (.iload_n 1, 1) := by decide +kernel
theorem d_PR_checkIndex_6 : decode (mC m_PR_checkIndex) 6 = .ok (.if_icmp .lt (10), 3) := by decide +kernel
theorem d_PR_checkIndex_9 : decode (mC m_PR_checkIndex) 9 = .ok (.aload_n 2, 1) := by decide +kernel
theorem d_PR_checkIndex_10 : decode (mC m_PR_checkIndex) 10 = .ok (.iload_n 0, 1) := by decide +kernel
theorem d_PR_checkIndex_11 : decode (mC m_PR_checkIndex) 11 = .ok (.iload_n 1, 1) := by decide +kernel
theorem d_PR_checkIndex_16 : decode (mC m_PR_checkIndex) 16 = .ok (.iload_n 0, 1) := by decide +kernel
theorem d_PR_checkIndex_17 : decode (mC m_PR_checkIndex) 17 = .ok (.ireturn, 1) := by decide +kernel
theorem d_OB_checkIndex_0 : decode (mC m_OB_checkIndex) 0 = .ok (.iload_n 0, 1) := by decide +kernel
theorem d_OB_checkIndex_1 : decode (mC m_OB_checkIndex) 1 = .ok (.iload_n 1, 1) := by decide +kernel
theorem d_OB_checkIndex_2 : decode (mC m_OB_checkIndex) 2 = .ok (.aconst_null, 1) := by decide +kernel
theorem d_OB_checkIndex_3 : decode (mC m_OB_checkIndex) 3 = .ok (.invokestatic 105, 3) := by decide +kernel
theorem d_OB_checkIndex_6 : decode (mC m_OB_checkIndex) 6 = .ok (.ireturn, 1) := by decide +kernel
theorem d_AL_elementData_0 : decode (mC m_AL_elementData) 0 = .ok (.aload_n 0, 1) := by decide +kernel
theorem d_AL_elementData_1 : decode (mC m_AL_elementData) 1 = .ok (.getfield 9, 3) := by decide +kernel
theorem d_AL_elementData_4 : decode (mC m_AL_elementData) 4 = .ok (.iload_n 1, 1) := by decide +kernel
theorem d_AL_elementData_5 : decode (mC m_AL_elementData) 5 = .ok (.aaload, 1) := by decide +kernel
theorem d_AL_elementData_6 : decode (mC m_AL_elementData) 6 = .ok (.areturn, 1) := by decide +kernel
theorem d_AL_get_0 : decode (mC m_AL_get) 0 = .ok (.iload_n 1, 1) := by decide +kernel
theorem d_AL_get_1 : decode (mC m_AL_get) 1 = .ok (.aload_n 0, 1) := by decide +kernel
theorem d_AL_get_2 : decode (mC m_AL_get) 2 = .ok (.getfield 48, 3) := by decide +kernel
theorem d_AL_get_5 : decode (mC m_AL_get) 5 = .ok (.invokestatic 118, 3) := by decide +kernel
theorem d_AL_get_8 : decode (mC m_AL_get) 8 = .ok (.pop, 1) := by decide +kernel
theorem d_AL_get_9 : decode (mC m_AL_get) 9 = .ok (.aload_n 0, 1) := by decide +kernel
theorem d_AL_get_10 : decode (mC m_AL_get) 10 = .ok (.iload_n 1, 1) := by decide +kernel
theorem d_AL_get_11 : decode (mC m_AL_get) 11 = .ok (.invokevirtual 123, 3) := by decide +kernel
theorem d_AL_get_14 : decode (mC m_AL_get) 14 = .ok (.areturn, 1) := by decide +kernel
theorem d_Session_isOldAt_0 : decode (mC m_Session_isOldAt) 0 = .ok (.iload_n 1, 1) := by decide +kernel
theorem d_Session_isOldAt_1 : decode (mC m_Session_isOldAt) 1 = .ok (.aload_n 0, 1) := by decide +kernel
theorem d_Session_isOldAt_2 : decode (mC m_Session_isOldAt) 2 = .ok (.getfield 34, 3) := by decide +kernel
theorem d_Session_isOldAt_5 : decode (mC m_Session_isOldAt) 5 = .ok (.isub, 1) := by decide +kernel
theorem d_Session_isOldAt_6 : decode (mC m_Session_isOldAt) 6 = .ok (.bipush (30), 2) := by decide +kernel
theorem d_Session_isOldAt_8 : decode (mC m_Session_isOldAt) 8 = .ok (.if_icmp .gt (15), 3) := by decide +kernel
theorem d_Session_isOldAt_11 : decode (mC m_Session_isOldAt) 11 = .ok (.iload_n 1, 1) := by decide +kernel
theorem d_Session_isOldAt_12 : decode (mC m_Session_isOldAt) 12 = .ok (.aload_n 0, 1) := by decide +kernel
theorem d_Session_isOldAt_13 : decode (mC m_Session_isOldAt) 13 = .ok (.getfield 31, 3) := by decide +kernel
theorem d_Session_isOldAt_16 : decode (mC m_Session_isOldAt) 16 = .ok (.isub, 1) := by decide +kernel
theorem d_Session_isOldAt_17 : decode (mC m_Session_isOldAt) 17 = .ok (.sipush (480), 3) := by decide +kernel
theorem d_Session_isOldAt_20 : decode (mC m_Session_isOldAt) 20 = .ok (.if_icmp .le (7), 3) := by decide +kernel
theorem d_Session_isOldAt_23 : decode (mC m_Session_isOldAt) 23 = .ok (.iconst 1, 1) := by decide +kernel
theorem d_Session_isOldAt_24 : decode (mC m_Session_isOldAt) 24 = .ok (.goto (4), 3) := by decide +kernel
theorem d_Session_isOldAt_27 : decode (mC m_Session_isOldAt) 27 = .ok (.iconst 0, 1) := by decide +kernel
theorem d_Session_isOldAt_28 : decode (mC m_Session_isOldAt) 28 = .ok (.ireturn, 1) := by decide +kernel
theorem d_K_markEnded_0 : decode (mC m_K_markEnded) 0 = .ok (.aload_n 1, 1) := by decide +kernel
theorem d_K_markEnded_1 : decode (mC m_K_markEnded) 1 = .ok (.iconst 0, 1) := by decide +kernel
theorem d_K_markEnded_2 : decode (mC m_K_markEnded) 2 = .ok (.putfield 206, 3) := by decide +kernel
theorem d_K_markEnded_5 : decode (mC m_K_markEnded) 5 = .ok (.aload_n 0, 1) := by decide +kernel
theorem d_K_markEnded_6 : decode (mC m_K_markEnded) 6 = .ok (.dup, 1) := by decide +kernel
theorem d_K_markEnded_7 : decode (mC m_K_markEnded) 7 = .ok (.getfield 99, 3) := by decide +kernel
theorem d_K_markEnded_10 : decode (mC m_K_markEnded) 10 = .ok (.iconst 1, 1) := by decide +kernel
theorem d_K_markEnded_11 : decode (mC m_K_markEnded) 11 = .ok (.isub, 1) := by decide +kernel
theorem d_K_markEnded_12 : decode (mC m_K_markEnded) 12 = .ok (.putfield 99, 3) := by decide +kernel
theorem d_K_markEnded_15 : decode (mC m_K_markEnded) 15 = .ok (.aload_n 0, 1) := by decide +kernel
theorem d_K_markEnded_16 : decode (mC m_K_markEnded) 16 = .ok (.getfield 10, 3) := by decide +kernel
theorem d_K_markEnded_19 : decode (mC m_K_markEnded) 19 = .ok (.iconst 1, 1) := by decide +kernel
theorem d_K_markEnded_20 : decode (mC m_K_markEnded) 20 = .ok (.aload_n 1, 1) := by decide +kernel
theorem d_K_markEnded_21 : decode (mC m_K_markEnded) 21 = .ok (.getfield 546, 3) := by decide +kernel
theorem d_K_markEnded_24 : decode (mC m_K_markEnded) 24 = .ok (.aload_n 0, 1) := by decide +kernel
theorem d_K_markEnded_25 : decode (mC m_K_markEnded) 25 = .ok (.getfield 92, 3) := by decide +kernel
theorem d_K_markEnded_28 : decode (mC m_K_markEnded) 28 = .ok (.invokevirtual 351, 3) := by decide +kernel
theorem d_K_markEnded_31 : decode (mC m_K_markEnded) 31 = .ok (.return_, 1) := by decide +kernel
theorem d_K_findService_0 : decode (mC m_K_findService) 0 = .ok (.iload_n 1, 1) := by decide +kernel
theorem d_K_findService_1 : decode (mC m_K_findService) 1 = .ok (.ifCond .lt (21), 3) := by decide +kernel
theorem d_K_findService_4 : decode (mC m_K_findService) 4 = .ok (.iload_n 1, 1) := by decide +kernel
theorem d_K_findService_5 : decode (mC m_K_findService) 5 = .ok (.aload_n 0, 1) := by decide +kernel
theorem d_K_findService_6 : decode (mC m_K_findService) 6 = .ok (.getfield 54, 3) := by decide +kernel
theorem d_K_findService_9 : decode (mC m_K_findService) 9 = .ok (.arraylength, 1) := by decide +kernel
theorem d_K_findService_10 : decode (mC m_K_findService) 10 = .ok (.if_icmp .ge (12), 3) := by decide +kernel
theorem d_K_findService_13 : decode (mC m_K_findService) 13 = .ok (.aload_n 0, 1) := by decide +kernel
theorem d_K_findService_14 : decode (mC m_K_findService) 14 = .ok (.getfield 54, 3) := by decide +kernel
theorem d_K_findService_17 : decode (mC m_K_findService) 17 = .ok (.iload_n 1, 1) := by decide +kernel
theorem d_K_findService_18 : decode (mC m_K_findService) 18 = .ok (.aaload, 1) := by decide +kernel
theorem d_K_findService_19 : decode (mC m_K_findService) 19 = .ok (.goto (4), 3) := by decide +kernel
theorem d_K_findService_22 : decode (mC m_K_findService) 22 = .ok (.aconst_null, 1) := by decide +kernel
theorem d_K_findService_23 : decode (mC m_K_findService) 23 = .ok (.astore_n 2, 1) := by decide +kernel
theorem d_K_findService_24 : decode (mC m_K_findService) 24 = .ok (.aload_n 2, 1) := by decide +kernel
theorem d_K_findService_25 : decode (mC m_K_findService) 25 = .ok (.ifnonnull (11), 3) := by decide +kernel
theorem d_K_findService_28 : decode (mC m_K_findService) 28 = .ok (.new 444, 3) := by decide +kernel
theorem d_K_findService_31 : decode (mC m_K_findService) 31 = .ok (.dup, 1) := by decide +kernel
theorem d_K_findService_32 : decode (mC m_K_findService) 32 = .ok (.invokespecial 446, 3) := by decide +kernel
theorem d_K_findService_35 : decode (mC m_K_findService) 35 = .ok (.athrow, 1) := by decide +kernel
theorem d_K_findService_36 : decode (mC m_K_findService) 36 = .ok (.aload_n 2, 1) := by decide +kernel
theorem d_K_findService_37 : decode (mC m_K_findService) 37 = .ok (.areturn, 1) := by decide +kernel
theorem d_K_isIn_0 : decode (mC m_K_isIn) 0 = .ok (.iload_n 1, 1) := by decide +kernel
theorem d_K_isIn_1 : decode (mC m_K_isIn) 1 = .ok (.iload_n 0, 1) := by decide +kernel
theorem d_K_isIn_2 : decode (mC m_K_isIn) 2 = .ok (.ishr, 1) := by decide +kernel
theorem d_K_isIn_3 : decode (mC m_K_isIn) 3 = .ok (.iconst 1, 1) := by decide +kernel
theorem d_K_isIn_4 : decode (mC m_K_isIn) 4 = .ok (.iand, 1) := by decide +kernel
theorem d_K_isIn_5 : decode (mC m_K_isIn) 5 = .ok (.iconst 1, 1) := by decide +kernel
theorem d_K_isIn_6 : decode (mC m_K_isIn) 6 = .ok (.if_icmp .ne (7), 3) := by decide +kernel
theorem d_K_isIn_9 : decode (mC m_K_isIn) 9 = .ok (.iconst 1, 1) := by decide +kernel
theorem d_K_isIn_10 : decode (mC m_K_isIn) 10 = .ok (.goto (4), 3) := by decide +kernel
theorem d_K_isIn_13 : decode (mC m_K_isIn) 13 = .ok (.iconst 0, 1) := by decide +kernel
theorem d_K_isIn_14 : decode (mC m_K_isIn) 14 = .ok (.ireturn, 1) := by decide +kernel
theorem d_Grant_tell_0 : decode (mC m_Grant_tell) 0 = .ok (.iload_n 1, 1) := by decide +kernel
theorem d_Grant_tell_1 : decode (mC m_Grant_tell) 1 = .ok (.aload_n 0, 1) := by decide +kernel
theorem d_Grant_tell_2 : decode (mC m_Grant_tell) 2 = .ok (.getfield 34, 3) := by decide +kernel
theorem d_Grant_tell_5 : decode (mC m_Grant_tell) 5 = .ok (.invokestatic 37, 3) := by decide +kernel
theorem d_Grant_tell_8 : decode (mC m_Grant_tell) 8 = .ok (.ifCond .eq (14), 3) := by decide +kernel
theorem d_Grant_tell_11 : decode (mC m_Grant_tell) 11 = .ok (.iload_n 1, 1) := by decide +kernel
theorem d_Grant_tell_12 : decode (mC m_Grant_tell) 12 = .ok (.aload_n 0, 1) := by decide +kernel
theorem d_Grant_tell_13 : decode (mC m_Grant_tell) 13 = .ok (.getfield 41, 3) := by decide +kernel
theorem d_Grant_tell_16 : decode (mC m_Grant_tell) 16 = .ok (.invokestatic 37, 3) := by decide +kernel
theorem d_Grant_tell_19 : decode (mC m_Grant_tell) 19 = .ok (.ifCond .eq (5), 3) := by decide +kernel
theorem d_Grant_tell_22 : decode (mC m_Grant_tell) 22 = .ok (.iconst 0, 1) := by decide +kernel
theorem d_Grant_tell_23 : decode (mC m_Grant_tell) 23 = .ok (.ireturn, 1) := by decide +kernel
theorem d_Grant_tell_24 : decode (mC m_Grant_tell) 24 = .ok (.aload_n 0, 1) := by decide +kernel
theorem d_Grant_tell_25 : decode (mC m_Grant_tell) 25 = .ok (.dup, 1) := by decide +kernel
theorem d_Grant_tell_26 : decode (mC m_Grant_tell) 26 = .ok (.getfield 41, 3) := by decide +kernel
theorem d_Grant_tell_29 : decode (mC m_Grant_tell) 29 = .ok (.iconst 1, 1) := by decide +kernel
theorem d_Grant_tell_30 : decode (mC m_Grant_tell) 30 = .ok (.iload_n 1, 1) := by decide +kernel
theorem d_Grant_tell_31 : decode (mC m_Grant_tell) 31 = .ok (.ishl, 1) := by decide +kernel
theorem d_Grant_tell_32 : decode (mC m_Grant_tell) 32 = .ok (.ior, 1) := by decide +kernel
theorem d_Grant_tell_33 : decode (mC m_Grant_tell) 33 = .ok (.putfield 41, 3) := by decide +kernel
theorem d_Grant_tell_36 : decode (mC m_Grant_tell) 36 = .ok (.iconst 1, 1) := by decide +kernel
theorem d_Grant_tell_37 : decode (mC m_Grant_tell) 37 = .ok (.ireturn, 1) := by decide +kernel
theorem d_K_endFamily_0 : decode (mC m_K_endFamily) 0 = .ok (.aload_n 1, 1) := by decide +kernel
theorem d_K_endFamily_1 : decode (mC m_K_endFamily) 1 = .ok (.getfield 258, 3) := by decide +kernel
theorem d_K_endFamily_4 : decode (mC m_K_endFamily) 4 = .ok (.ifCond .ne (4), 3) := by decide +kernel
theorem d_K_endFamily_7 : decode (mC m_K_endFamily) 7 = .ok (.return_, 1) := by decide +kernel
theorem d_K_endFamily_8 : decode (mC m_K_endFamily) 8 = .ok (.aload_n 1, 1) := by decide +kernel
theorem d_K_endFamily_9 : decode (mC m_K_endFamily) 9 = .ok (.iconst 0, 1) := by decide +kernel
theorem d_K_endFamily_10 : decode (mC m_K_endFamily) 10 = .ok (.putfield 258, 3) := by decide +kernel
theorem d_K_endFamily_13 : decode (mC m_K_endFamily) 13 = .ok (.aload_n 0, 1) := by decide +kernel
theorem d_K_endFamily_14 : decode (mC m_K_endFamily) 14 = .ok (.getfield 10, 3) := by decide +kernel
theorem d_K_endFamily_17 : decode (mC m_K_endFamily) 17 = .ok (.iconst 3, 1) := by decide +kernel
theorem d_K_endFamily_18 : decode (mC m_K_endFamily) 18 = .ok (.aload_n 1, 1) := by decide +kernel
theorem d_K_endFamily_19 : decode (mC m_K_endFamily) 19 = .ok (.getfield 284, 3) := by decide +kernel
theorem d_K_endFamily_22 : decode (mC m_K_endFamily) 22 = .ok (.aload_n 0, 1) := by decide +kernel
theorem d_K_endFamily_23 : decode (mC m_K_endFamily) 23 = .ok (.getfield 92, 3) := by decide +kernel
theorem d_K_endFamily_26 : decode (mC m_K_endFamily) 26 = .ok (.invokevirtual 351, 3) := by decide +kernel
theorem d_K_endFamily_29 : decode (mC m_K_endFamily) 29 = .ok (.iconst 0, 1) := by decide +kernel
theorem d_K_endFamily_30 : decode (mC m_K_endFamily) 30 = .ok (.istore_n 2, 1) := by decide +kernel
theorem d_K_endFamily_31 : decode (mC m_K_endFamily) 31 = .ok (.iload_n 2, 1) := by decide +kernel
theorem d_K_endFamily_32 : decode (mC m_K_endFamily) 32 = .ok (.iconst 4, 1) := by decide +kernel
theorem d_K_endFamily_33 : decode (mC m_K_endFamily) 33 = .ok (.if_icmp .ge (26), 3) := by decide +kernel
theorem d_K_endFamily_36 : decode (mC m_K_endFamily) 36 = .ok (.aload_n 0, 1) := by decide +kernel
theorem d_K_endFamily_37 : decode (mC m_K_endFamily) 37 = .ok (.iload_n 2, 1) := by decide +kernel
theorem d_K_endFamily_38 : decode (mC m_K_endFamily) 38 = .ok (.invokevirtual 270, 3) := by decide +kernel
theorem d_K_endFamily_41 : decode (mC m_K_endFamily) 41 = .ok (.getfield 361, 3) := by decide +kernel
theorem d_K_endFamily_44 : decode (mC m_K_endFamily) 44 = .ok (.ifCond .eq (9), 3) := by decide +kernel
theorem d_K_endFamily_47 : decode (mC m_K_endFamily) 47 = .ok (.aload_n 1, 1) := by decide +kernel
theorem d_K_endFamily_48 : decode (mC m_K_endFamily) 48 = .ok (.iload_n 2, 1) := by decide +kernel
theorem d_K_endFamily_49 : decode (mC m_K_endFamily) 49 = .ok (.invokevirtual 547, 3) := by decide +kernel
theorem d_K_endFamily_52 : decode (mC m_K_endFamily) 52 = .ok (.pop, 1) := by decide +kernel
theorem d_K_endFamily_53 : decode (mC m_K_endFamily) 53 = .ok (.iinc 2 (1), 3) := by decide +kernel
theorem d_K_endFamily_56 : decode (mC m_K_endFamily) 56 = .ok (.goto (-25), 3) := by decide +kernel
theorem d_K_endFamily_59 : decode (mC m_K_endFamily) 59 = .ok (.return_, 1) := by decide +kernel
theorem d_K_endFamiliesOf_0 : decode (mC m_K_endFamiliesOf) 0 = .ok (.iconst 0, 1) := by decide +kernel
theorem d_K_endFamiliesOf_1 : decode (mC m_K_endFamiliesOf) 1 = .ok (.istore_n 2, 1) := by decide +kernel
theorem d_K_endFamiliesOf_2 : decode (mC m_K_endFamiliesOf) 2 = .ok (.iload_n 2, 1) := by decide +kernel
theorem d_K_endFamiliesOf_3 : decode (mC m_K_endFamiliesOf) 3 = .ok (.aload_n 0, 1) := by decide +kernel
theorem d_K_endFamiliesOf_4 : decode (mC m_K_endFamiliesOf) 4 = .ok (.getfield 61, 3) := by decide +kernel
theorem d_K_endFamiliesOf_7 : decode (mC m_K_endFamiliesOf) 7 = .ok (.invokevirtual 134, 3) := by decide +kernel
theorem d_K_endFamiliesOf_10 : decode (mC m_K_endFamiliesOf) 10 = .ok (.if_icmp .ge (34), 3) := by decide +kernel
theorem d_K_endFamiliesOf_13 : decode (mC m_K_endFamiliesOf) 13 = .ok (.aload_n 0, 1) := by decide +kernel
theorem d_K_endFamiliesOf_14 : decode (mC m_K_endFamiliesOf) 14 = .ok (.getfield 61, 3) := by decide +kernel
theorem d_K_endFamiliesOf_17 : decode (mC m_K_endFamiliesOf) 17 = .ok (.iload_n 2, 1) := by decide +kernel
theorem d_K_endFamiliesOf_18 : decode (mC m_K_endFamiliesOf) 18 = .ok (.invokevirtual 152, 3) := by decide +kernel
theorem d_K_endFamiliesOf_21 : decode (mC m_K_endFamiliesOf) 21 = .ok (.checkcast 256, 3) := by decide +kernel
theorem d_K_endFamiliesOf_24 : decode (mC m_K_endFamiliesOf) 24 = .ok (.astore_n 3, 1) := by decide +kernel
theorem d_K_endFamiliesOf_25 : decode (mC m_K_endFamiliesOf) 25 = .ok (.aload_n 3, 1) := by decide +kernel
theorem d_K_endFamiliesOf_26 : decode (mC m_K_endFamiliesOf) 26 = .ok (.getfield 261, 3) := by decide +kernel
theorem d_K_endFamiliesOf_29 : decode (mC m_K_endFamiliesOf) 29 = .ok (.aload_n 1, 1) := by decide +kernel
theorem d_K_endFamiliesOf_30 : decode (mC m_K_endFamiliesOf) 30 = .ok (.if_acmp .ne (8), 3) := by decide +kernel
theorem d_K_endFamiliesOf_33 : decode (mC m_K_endFamiliesOf) 33 = .ok (.aload_n 0, 1) := by decide +kernel
theorem d_K_endFamiliesOf_34 : decode (mC m_K_endFamiliesOf) 34 = .ok (.aload_n 3, 1) := by decide +kernel
theorem d_K_endFamiliesOf_35 : decode (mC m_K_endFamiliesOf) 35 = .ok (.invokevirtual 266, 3) := by decide +kernel
theorem d_K_endFamiliesOf_38 : decode (mC m_K_endFamiliesOf) 38 = .ok (.iinc 2 (1), 3) := by decide +kernel
theorem d_K_endFamiliesOf_41 : decode (mC m_K_endFamiliesOf) 41 = .ok (.goto (-39), 3) := by decide +kernel
theorem d_K_endFamiliesOf_44 : decode (mC m_K_endFamiliesOf) 44 = .ok (.return_, 1) := by decide +kernel
theorem d_K_endSession_0 : decode (mC m_K_endSession) 0 = .ok (.aload_n 0, 1) := by decide +kernel
theorem d_K_endSession_1 : decode (mC m_K_endSession) 1 = .ok (.aload_n 1, 1) := by decide +kernel
theorem d_K_endSession_2 : decode (mC m_K_endSession) 2 = .ok (.invokevirtual 540, 3) := by decide +kernel
theorem d_K_endSession_5 : decode (mC m_K_endSession) 5 = .ok (.iconst 0, 1) := by decide +kernel
theorem d_K_endSession_6 : decode (mC m_K_endSession) 6 = .ok (.istore_n 2, 1) := by decide +kernel
theorem d_K_endSession_7 : decode (mC m_K_endSession) 7 = .ok (.iload_n 2, 1) := by decide +kernel
theorem d_K_endSession_8 : decode (mC m_K_endSession) 8 = .ok (.aload_n 0, 1) := by decide +kernel
theorem d_K_endSession_9 : decode (mC m_K_endSession) 9 = .ok (.getfield 46, 3) := by decide +kernel
theorem d_K_endSession_12 : decode (mC m_K_endSession) 12 = .ok (.invokevirtual 134, 3) := by decide +kernel
theorem d_K_endSession_15 : decode (mC m_K_endSession) 15 = .ok (.if_icmp .ge (46), 3) := by decide +kernel
theorem d_K_endSession_18 : decode (mC m_K_endSession) 18 = .ok (.aload_n 0, 1) := by decide +kernel
theorem d_K_endSession_19 : decode (mC m_K_endSession) 19 = .ok (.getfield 46, 3) := by decide +kernel
theorem d_K_endSession_22 : decode (mC m_K_endSession) 22 = .ok (.iload_n 2, 1) := by decide +kernel
theorem d_K_endSession_23 : decode (mC m_K_endSession) 23 = .ok (.invokevirtual 152, 3) := by decide +kernel
theorem d_K_endSession_26 : decode (mC m_K_endSession) 26 = .ok (.checkcast 207, 3) := by decide +kernel
theorem d_K_endSession_29 : decode (mC m_K_endSession) 29 = .ok (.astore_n 3, 1) := by decide +kernel
theorem d_K_endSession_30 : decode (mC m_K_endSession) 30 = .ok (.aload_n 3, 1) := by decide +kernel
theorem d_K_endSession_31 : decode (mC m_K_endSession) 31 = .ok (.getfield 218, 3) := by decide +kernel
theorem d_K_endSession_34 : decode (mC m_K_endSession) 34 = .ok (.aload_n 1, 1) := by decide +kernel
theorem d_K_endSession_35 : decode (mC m_K_endSession) 35 = .ok (.if_acmp .ne (20), 3) := by decide +kernel
theorem d_K_endSession_38 : decode (mC m_K_endSession) 38 = .ok (.aload_n 3, 1) := by decide +kernel
theorem d_K_endSession_39 : decode (mC m_K_endSession) 39 = .ok (.getfield 206, 3) := by decide +kernel
theorem d_K_endSession_42 : decode (mC m_K_endSession) 42 = .ok (.ifCond .eq (13), 3) := by decide +kernel
theorem d_K_endSession_45 : decode (mC m_K_endSession) 45 = .ok (.aload_n 0, 1) := by decide +kernel
theorem d_K_endSession_46 : decode (mC m_K_endSession) 46 = .ok (.aload_n 3, 1) := by decide +kernel
theorem d_K_endSession_47 : decode (mC m_K_endSession) 47 = .ok (.invokevirtual 540, 3) := by decide +kernel
theorem d_K_endSession_50 : decode (mC m_K_endSession) 50 = .ok (.aload_n 0, 1) := by decide +kernel
theorem d_K_endSession_51 : decode (mC m_K_endSession) 51 = .ok (.aload_n 3, 1) := by decide +kernel
theorem d_K_endSession_52 : decode (mC m_K_endSession) 52 = .ok (.invokevirtual 543, 3) := by decide +kernel
theorem d_K_endSession_55 : decode (mC m_K_endSession) 55 = .ok (.iinc 2 (1), 3) := by decide +kernel
theorem d_K_endSession_58 : decode (mC m_K_endSession) 58 = .ok (.goto (-51), 3) := by decide +kernel
theorem d_K_endSession_61 : decode (mC m_K_endSession) 61 = .ok (.aload_n 0, 1) := by decide +kernel
theorem d_K_endSession_62 : decode (mC m_K_endSession) 62 = .ok (.aload_n 1, 1) := by decide +kernel
theorem d_K_endSession_63 : decode (mC m_K_endSession) 63 = .ok (.invokevirtual 543, 3) := by decide +kernel
theorem d_K_endSession_66 : decode (mC m_K_endSession) 66 = .ok (.return_, 1) := by decide +kernel
theorem d_K_endOldSessions_0 : decode (mC m_K_endOldSessions) 0 = .ok (.aload_n 0, 1) := by decide +kernel
theorem d_K_endOldSessions_1 : decode (mC m_K_endOldSessions) 1 = .ok (.getfield 99, 3) := by decide +kernel
theorem d_K_endOldSessions_4 : decode (mC m_K_endOldSessions) 4 = .ok (.ifCond .ne (4), 3) := by decide +kernel
theorem d_K_endOldSessions_7 : decode (mC m_K_endOldSessions) 7 = .ok (.return_, 1) := by decide +kernel
theorem d_K_endOldSessions_8 : decode (mC m_K_endOldSessions) 8 = .ok (.iconst 0, 1) := by decide +kernel
theorem d_K_endOldSessions_9 : decode (mC m_K_endOldSessions) 9 = .ok (.istore_n 1, 1) := by decide +kernel
theorem d_K_endOldSessions_10 : decode (mC m_K_endOldSessions) 10 = .ok (.iload_n 1, 1) := by decide +kernel
theorem d_K_endOldSessions_11 : decode (mC m_K_endOldSessions) 11 = .ok (.aload_n 0, 1) := by decide +kernel
theorem d_K_endOldSessions_12 : decode (mC m_K_endOldSessions) 12 = .ok (.getfield 46, 3) := by decide +kernel
theorem d_K_endOldSessions_15 : decode (mC m_K_endOldSessions) 15 = .ok (.invokevirtual 134, 3) := by decide +kernel
theorem d_K_endOldSessions_18 : decode (mC m_K_endOldSessions) 18 = .ok (.if_icmp .ge (44), 3) := by decide +kernel
theorem d_K_endOldSessions_21 : decode (mC m_K_endOldSessions) 21 = .ok (.aload_n 0, 1) := by decide +kernel
theorem d_K_endOldSessions_22 : decode (mC m_K_endOldSessions) 22 = .ok (.getfield 46, 3) := by decide +kernel
theorem d_K_endOldSessions_25 : decode (mC m_K_endOldSessions) 25 = .ok (.iload_n 1, 1) := by decide +kernel
theorem d_K_endOldSessions_26 : decode (mC m_K_endOldSessions) 26 = .ok (.invokevirtual 152, 3) := by decide +kernel
theorem d_K_endOldSessions_29 : decode (mC m_K_endOldSessions) 29 = .ok (.checkcast 207, 3) := by decide +kernel
theorem d_K_endOldSessions_32 : decode (mC m_K_endOldSessions) 32 = .ok (.astore_n 2, 1) := by decide +kernel
theorem d_K_endOldSessions_33 : decode (mC m_K_endOldSessions) 33 = .ok (.aload_n 2, 1) := by decide +kernel
theorem d_K_endOldSessions_34 : decode (mC m_K_endOldSessions) 34 = .ok (.getfield 206, 3) := by decide +kernel
theorem d_K_endOldSessions_37 : decode (mC m_K_endOldSessions) 37 = .ok (.ifCond .eq (19), 3) := by decide +kernel
theorem d_K_endOldSessions_40 : decode (mC m_K_endOldSessions) 40 = .ok (.aload_n 2, 1) := by decide +kernel
theorem d_K_endOldSessions_41 : decode (mC m_K_endOldSessions) 41 = .ok (.aload_n 0, 1) := by decide +kernel
theorem d_K_endOldSessions_42 : decode (mC m_K_endOldSessions) 42 = .ok (.getfield 92, 3) := by decide +kernel
theorem d_K_endOldSessions_45 : decode (mC m_K_endOldSessions) 45 = .ok (.invokevirtual 468, 3) := by decide +kernel
theorem d_K_endOldSessions_48 : decode (mC m_K_endOldSessions) 48 = .ok (.ifCond .eq (8), 3) := by decide +kernel
theorem d_K_endOldSessions_51 : decode (mC m_K_endOldSessions) 51 = .ok (.aload_n 0, 1) := by decide +kernel
theorem d_K_endOldSessions_52 : decode (mC m_K_endOldSessions) 52 = .ok (.aload_n 2, 1) := by decide +kernel
theorem d_K_endOldSessions_53 : decode (mC m_K_endOldSessions) 53 = .ok (.invokevirtual 242, 3) := by decide +kernel
theorem d_K_endOldSessions_56 : decode (mC m_K_endOldSessions) 56 = .ok (.iinc 1 (1), 3) := by decide +kernel
theorem d_K_endOldSessions_59 : decode (mC m_K_endOldSessions) 59 = .ok (.goto (-49), 3) := by decide +kernel
theorem d_K_endOldSessions_62 : decode (mC m_K_endOldSessions) 62 = .ok (.return_, 1) := by decide +kernel
theorem d_K_pass_0 : decode (mC m_K_pass) 0 = .ok (.iload_n 1, 1) := by decide +kernel
theorem d_K_pass_1 : decode (mC m_K_pass) 1 = .ok (.iconst 1, 1) := by decide +kernel
theorem d_K_pass_2 : decode (mC m_K_pass) 2 = .ok (.sipush (600), 3) := by decide +kernel
theorem d_K_pass_5 : decode (mC m_K_pass) 5 = .ok (.invokestatic 84, 3) := by decide +kernel
theorem d_K_pass_8 : decode (mC m_K_pass) 8 = .ok (.invokestatic 88, 3) := by decide +kernel
theorem d_K_pass_11 : decode (mC m_K_pass) 11 = .ok (.aload_n 0, 1) := by decide +kernel
theorem d_K_pass_12 : decode (mC m_K_pass) 12 = .ok (.getfield 92, 3) := by decide +kernel
theorem d_K_pass_15 : decode (mC m_K_pass) 15 = .ok (.iload_n 1, 1) := by decide +kernel
theorem d_K_pass_16 : decode (mC m_K_pass) 16 = .ok (.iadd, 1) := by decide +kernel
theorem d_K_pass_17 : decode (mC m_K_pass) 17 = .ok (.sipush (30000), 3) := by decide +kernel
theorem d_K_pass_20 : decode (mC m_K_pass) 20 = .ok (.if_icmp .gt (7), 3) := by decide +kernel
theorem d_K_pass_23 : decode (mC m_K_pass) 23 = .ok (.iconst 1, 1) := by decide +kernel
theorem d_K_pass_24 : decode (mC m_K_pass) 24 = .ok (.goto (4), 3) := by decide +kernel
theorem d_K_pass_27 : decode (mC m_K_pass) 27 = .ok (.iconst 0, 1) := by decide +kernel
theorem d_K_pass_28 : decode (mC m_K_pass) 28 = .ok (.invokestatic 96, 3) := by decide +kernel
theorem d_K_pass_31 : decode (mC m_K_pass) 31 = .ok (.aload_n 0, 1) := by decide +kernel
theorem d_K_pass_32 : decode (mC m_K_pass) 32 = .ok (.getfield 99, 3) := by decide +kernel
theorem d_K_pass_35 : decode (mC m_K_pass) 35 = .ok (.istore_n 2, 1) := by decide +kernel
theorem d_K_pass_36 : decode (mC m_K_pass) 36 = .ok (.iconst 0, 1) := by decide +kernel
theorem d_K_pass_37 : decode (mC m_K_pass) 37 = .ok (.istore_n 3, 1) := by decide +kernel
theorem d_K_pass_38 : decode (mC m_K_pass) 38 = .ok (.iload_n 3, 1) := by decide +kernel
theorem d_K_pass_39 : decode (mC m_K_pass) 39 = .ok (.iload_n 1, 1) := by decide +kernel
theorem d_K_pass_40 : decode (mC m_K_pass) 40 = .ok (.if_icmp .ge (27), 3) := by decide +kernel
theorem d_K_pass_43 : decode (mC m_K_pass) 43 = .ok (.aload_n 0, 1) := by decide +kernel
theorem d_K_pass_44 : decode (mC m_K_pass) 44 = .ok (.dup, 1) := by decide +kernel
theorem d_K_pass_45 : decode (mC m_K_pass) 45 = .ok (.getfield 92, 3) := by decide +kernel
theorem d_K_pass_48 : decode (mC m_K_pass) 48 = .ok (.iconst 1, 1) := by decide +kernel
theorem d_K_pass_49 : decode (mC m_K_pass) 49 = .ok (.iadd, 1) := by decide +kernel
theorem d_K_pass_50 : decode (mC m_K_pass) 50 = .ok (.putfield 92, 3) := by decide +kernel
theorem d_K_pass_53 : decode (mC m_K_pass) 53 = .ok (.aload_n 0, 1) := by decide +kernel
theorem d_K_pass_54 : decode (mC m_K_pass) 54 = .ok (.invokevirtual 102, 3) := by decide +kernel
theorem d_K_pass_57 : decode (mC m_K_pass) 57 = .ok (.aload_n 0, 1) := by decide +kernel
theorem d_K_pass_58 : decode (mC m_K_pass) 58 = .ok (.invokevirtual 105, 3) := by decide +kernel
theorem d_K_pass_61 : decode (mC m_K_pass) 61 = .ok (.iinc 3 (1), 3) := by decide +kernel
theorem d_K_pass_64 : decode (mC m_K_pass) 64 = .ok (.goto (-26), 3) := by decide +kernel
theorem d_K_pass_67 : decode (mC m_K_pass) 67 = .ok (.iload_n 2, 1) := by decide +kernel
theorem d_K_pass_68 : decode (mC m_K_pass) 68 = .ok (.aload_n 0, 1) := by decide +kernel
theorem d_K_pass_69 : decode (mC m_K_pass) 69 = .ok (.getfield 99, 3) := by decide +kernel
theorem d_K_pass_72 : decode (mC m_K_pass) 72 = .ok (.isub, 1) := by decide +kernel
theorem d_K_pass_73 : decode (mC m_K_pass) 73 = .ok (.ireturn, 1) := by decide +kernel
theorem d_W_pass_0 : decode (mC m_W_pass) 0 = .ok (.aload_n 2, 1) := by decide +kernel
theorem d_W_pass_1 : decode (mC m_W_pass) 1 = .ok (.iconst 0, 1) := by decide +kernel
theorem d_W_pass_2 : decode (mC m_W_pass) 2 = .ok (.aload_n 0, 1) := by decide +kernel
theorem d_W_pass_3 : decode (mC m_W_pass) 3 = .ok (.iload_n 1, 1) := by decide +kernel
theorem d_W_pass_4 : decode (mC m_W_pass) 4 = .ok (.invokevirtual 7, 3) := by decide +kernel
theorem d_W_pass_7 : decode (mC m_W_pass) 7 = .ok (.i2l, 1) := by decide +kernel
theorem d_W_pass_8 : decode (mC m_W_pass) 8 = .ok (.lastore, 1) := by decide +kernel
theorem d_W_pass_9 : decode (mC m_W_pass) 9 = .ok (.goto (9), 3) := by decide +kernel
theorem d_W_pass_12 : decode (mC m_W_pass) 12 = .ok (.astore_n 3, 1) := by decide +kernel
theorem d_W_pass_13 : decode (mC m_W_pass) 13 = .ok (.iconst 1, 1) := by decide +kernel
theorem d_W_pass_14 : decode (mC m_W_pass) 14 = .ok (.ireturn, 1) := by decide +kernel
theorem d_W_pass_15 : decode (mC m_W_pass) 15 = .ok (.astore_n 3, 1) := by decide +kernel
theorem d_W_pass_16 : decode (mC m_W_pass) 16 = .ok (.iconst 2, 1) := by decide +kernel
theorem d_W_pass_17 : decode (mC m_W_pass) 17 = .ok (.ireturn, 1) := by decide +kernel
theorem d_W_pass_18 : decode (mC m_W_pass) 18 = .ok (.iconst 0, 1) := by decide +kernel
theorem d_W_pass_19 : decode (mC m_W_pass) 19 = .ok (.ireturn, 1) := by decide +kernel
theorem d_M_isIn_0 : decode (mC m_M_isIn) 0 = .ok (.iload_n 0, 1) := by decide +kernel
theorem d_M_isIn_1 : decode (mC m_M_isIn) 1 = .ok (.iload_n 1, 1) := by decide +kernel
theorem d_M_isIn_2 : decode (mC m_M_isIn) 2 = .ok (.if_icmp .lt (12), 3) := by decide +kernel
theorem d_M_isIn_5 : decode (mC m_M_isIn) 5 = .ok (.iload_n 0, 1) := by decide +kernel
theorem d_M_isIn_6 : decode (mC m_M_isIn) 6 = .ok (.iload_n 2, 1) := by decide +kernel
theorem d_M_isIn_7 : decode (mC m_M_isIn) 7 = .ok (.if_icmp .gt (7), 3) := by decide +kernel
theorem d_M_isIn_10 : decode (mC m_M_isIn) 10 = .ok (.iconst 1, 1) := by decide +kernel
theorem d_M_isIn_11 : decode (mC m_M_isIn) 11 = .ok (.goto (4), 3) := by decide +kernel
theorem d_M_isIn_14 : decode (mC m_M_isIn) 14 = .ok (.iconst 0, 1) := by decide +kernel
theorem d_M_isIn_15 : decode (mC m_M_isIn) 15 = .ok (.ireturn, 1) := by decide +kernel
theorem d_M_mayBoth_0 : decode (mC m_M_mayBoth) 0 = .ok (.aload_n 0, 1) := by decide +kernel
theorem d_M_mayBoth_1 : decode (mC m_M_mayBoth) 1 = .ok (.iload_n 1, 1) := by decide +kernel
theorem d_M_mayBoth_2 : decode (mC m_M_mayBoth) 2 = .ok (.ifCond .ne (7), 3) := by decide +kernel
theorem d_M_mayBoth_5 : decode (mC m_M_mayBoth) 5 = .ok (.iconst 1, 1) := by decide +kernel
theorem d_M_mayBoth_6 : decode (mC m_M_mayBoth) 6 = .ok (.goto (12), 3) := by decide +kernel
theorem d_M_mayBoth_9 : decode (mC m_M_mayBoth) 9 = .ok (.iload_n 2, 1) := by decide +kernel
theorem d_M_mayBoth_10 : decode (mC m_M_mayBoth) 10 = .ok (.ifCond .ne (7), 3) := by decide +kernel
theorem d_M_mayBoth_13 : decode (mC m_M_mayBoth) 13 = .ok (.iconst 2, 1) := by decide +kernel
theorem d_M_mayBoth_14 : decode (mC m_M_mayBoth) 14 = .ok (.goto (4), 3) := by decide +kernel
theorem d_M_mayBoth_17 : decode (mC m_M_mayBoth) 17 = .ok (.iconst 0, 1) := by decide +kernel
theorem d_M_mayBoth_18 : decode (mC m_M_mayBoth) 18 = .ok (.putfield 225, 3) := by decide +kernel
theorem d_M_mayBoth_21 : decode (mC m_M_mayBoth) 21 = .ok (.aload_n 0, 1) := by decide +kernel
theorem d_M_mayBoth_22 : decode (mC m_M_mayBoth) 22 = .ok (.getfield 225, 3) := by decide +kernel
theorem d_M_mayBoth_25 : decode (mC m_M_mayBoth) 25 = .ok (.ifCond .ne (7), 3) := by decide +kernel
theorem d_M_mayBoth_28 : decode (mC m_M_mayBoth) 28 = .ok (.iconst 1, 1) := by decide +kernel
theorem d_M_mayBoth_29 : decode (mC m_M_mayBoth) 29 = .ok (.goto (4), 3) := by decide +kernel
theorem d_M_mayBoth_32 : decode (mC m_M_mayBoth) 32 = .ok (.iconst 0, 1) := by decide +kernel
theorem d_M_mayBoth_33 : decode (mC m_M_mayBoth) 33 = .ok (.ireturn, 1) := by decide +kernel
theorem d_M_write_0 : decode (mC m_M_write) 0 = .ok (.aload_n 0, 1) := by decide +kernel
theorem d_M_write_1 : decode (mC m_M_write) 1 = .ok (.getfield 213, 3) := by decide +kernel
theorem d_M_write_4 : decode (mC m_M_write) 4 = .ok (.aload_n 0, 1) := by decide +kernel
theorem d_M_write_5 : decode (mC m_M_write) 5 = .ok (.getfield 244, 3) := by decide +kernel
theorem d_M_write_8 : decode (mC m_M_write) 8 = .ok (.iload_n 1, 1) := by decide +kernel
theorem d_M_write_9 : decode (mC m_M_write) 9 = .ok (.iastore, 1) := by decide +kernel
theorem d_M_write_10 : decode (mC m_M_write) 10 = .ok (.aload_n 0, 1) := by decide +kernel
theorem d_M_write_11 : decode (mC m_M_write) 11 = .ok (.getfield 216, 3) := by decide +kernel
theorem d_M_write_14 : decode (mC m_M_write) 14 = .ok (.aload_n 0, 1) := by decide +kernel
theorem d_M_write_15 : decode (mC m_M_write) 15 = .ok (.getfield 244, 3) := by decide +kernel
theorem d_M_write_18 : decode (mC m_M_write) 18 = .ok (.iload_n 2, 1) := by decide +kernel
theorem d_M_write_19 : decode (mC m_M_write) 19 = .ok (.iastore, 1) := by decide +kernel
theorem d_M_write_20 : decode (mC m_M_write) 20 = .ok (.aload_n 0, 1) := by decide +kernel
theorem d_M_write_21 : decode (mC m_M_write) 21 = .ok (.getfield 219, 3) := by decide +kernel
theorem d_M_write_24 : decode (mC m_M_write) 24 = .ok (.aload_n 0, 1) := by decide +kernel
theorem d_M_write_25 : decode (mC m_M_write) 25 = .ok (.getfield 244, 3) := by decide +kernel
theorem d_M_write_28 : decode (mC m_M_write) 28 = .ok (.aload_n 0, 1) := by decide +kernel
theorem d_M_write_29 : decode (mC m_M_write) 29 = .ok (.getfield 247, 3) := by decide +kernel
theorem d_M_write_32 : decode (mC m_M_write) 32 = .ok (.iastore, 1) := by decide +kernel
theorem d_M_write_33 : decode (mC m_M_write) 33 = .ok (.aload_n 0, 1) := by decide +kernel
theorem d_M_write_34 : decode (mC m_M_write) 34 = .ok (.dup, 1) := by decide +kernel
theorem d_M_write_35 : decode (mC m_M_write) 35 = .ok (.getfield 244, 3) := by decide +kernel
theorem d_M_write_38 : decode (mC m_M_write) 38 = .ok (.iconst 1, 1) := by decide +kernel
theorem d_M_write_39 : decode (mC m_M_write) 39 = .ok (.iadd, 1) := by decide +kernel
theorem d_M_write_40 : decode (mC m_M_write) 40 = .ok (.putfield 244, 3) := by decide +kernel
theorem d_M_write_43 : decode (mC m_M_write) 43 = .ok (.aload_n 0, 1) := by decide +kernel
theorem d_M_write_44 : decode (mC m_M_write) 44 = .ok (.bipush (31), 2) := by decide +kernel
theorem d_M_write_46 : decode (mC m_M_write) 46 = .ok (.aload_n 0, 1) := by decide +kernel
theorem d_M_write_47 : decode (mC m_M_write) 47 = .ok (.getfield 222, 3) := by decide +kernel
theorem d_M_write_50 : decode (mC m_M_write) 50 = .ok (.imul, 1) := by decide +kernel
theorem d_M_write_51 : decode (mC m_M_write) 51 = .ok (.bipush (100), 2) := by decide +kernel
theorem d_M_write_53 : decode (mC m_M_write) 53 = .ok (.iload_n 1, 1) := by decide +kernel
theorem d_M_write_54 : decode (mC m_M_write) 54 = .ok (.imul, 1) := by decide +kernel
theorem d_M_write_55 : decode (mC m_M_write) 55 = .ok (.iadd, 1) := by decide +kernel
theorem d_M_write_56 : decode (mC m_M_write) 56 = .ok (.iload_n 2, 1) := by decide +kernel
theorem d_M_write_57 : decode (mC m_M_write) 57 = .ok (.iadd, 1) := by decide +kernel
theorem d_M_write_58 : decode (mC m_M_write) 58 = .ok (.aload_n 0, 1) := by decide +kernel
theorem d_M_write_59 : decode (mC m_M_write) 59 = .ok (.getfield 247, 3) := by decide +kernel
theorem d_M_write_62 : decode (mC m_M_write) 62 = .ok (.iadd, 1) := by decide +kernel
theorem d_M_write_63 : decode (mC m_M_write) 63 = .ok (.ldc 250, 2) := by decide +kernel
theorem d_M_write_65 : decode (mC m_M_write) 65 = .ok (.irem, 1) := by decide +kernel
theorem d_M_write_66 : decode (mC m_M_write) 66 = .ok (.putfield 222, 3) := by decide +kernel
theorem d_M_write_69 : decode (mC m_M_write) 69 = .ok (.return_, 1) := by decide +kernel
theorem d_M_hears_0 : decode (mC m_M_hears) 0 = .ok (.iconst 0, 1) := by decide +kernel
theorem d_M_hears_1 : decode (mC m_M_hears) 1 = .ok (.istore_n 3, 1) := by decide +kernel
theorem d_M_hears_2 : decode (mC m_M_hears) 2 = .ok (.iconst 0, 1) := by decide +kernel
theorem d_M_hears_3 : decode (mC m_M_hears) 3 = .ok (.istore 4, 2) := by decide +kernel
theorem d_M_hears_5 : decode (mC m_M_hears) 5 = .ok (.iload 4, 2) := by decide +kernel
theorem d_M_hears_7 : decode (mC m_M_hears) 7 = .ok (.aload_n 0, 1) := by decide +kernel
theorem d_M_hears_8 : decode (mC m_M_hears) 8 = .ok (.getfield 241, 3) := by decide +kernel
theorem d_M_hears_11 : decode (mC m_M_hears) 11 = .ok (.if_icmp .ge (41), 3) := by decide +kernel
theorem d_M_hears_14 : decode (mC m_M_hears) 14 = .ok (.iload_n 3, 1) := by decide +kernel
theorem d_M_hears_15 : decode (mC m_M_hears) 15 = .ok (.ifCond .ne (25), 3) := by decide +kernel
theorem d_M_hears_18 : decode (mC m_M_hears) 18 = .ok (.aload_n 0, 1) := by decide +kernel
theorem d_M_hears_19 : decode (mC m_M_hears) 19 = .ok (.getfield 161, 3) := by decide +kernel
theorem d_M_hears_22 : decode (mC m_M_hears) 22 = .ok (.iload 4, 2) := by decide +kernel
theorem d_M_hears_24 : decode (mC m_M_hears) 24 = .ok (.iaload, 1) := by decide +kernel
theorem d_M_hears_25 : decode (mC m_M_hears) 25 = .ok (.iload_n 2, 1) := by decide +kernel
theorem d_M_hears_26 : decode (mC m_M_hears) 26 = .ok (.if_icmp .ne (18), 3) := by decide +kernel
theorem d_M_hears_29 : decode (mC m_M_hears) 29 = .ok (.aload_n 0, 1) := by decide +kernel
theorem d_M_hears_30 : decode (mC m_M_hears) 30 = .ok (.getfield 152, 3) := by decide +kernel
theorem d_M_hears_33 : decode (mC m_M_hears) 33 = .ok (.iload 4, 2) := by decide +kernel
theorem d_M_hears_35 : decode (mC m_M_hears) 35 = .ok (.iaload, 1) := by decide +kernel
theorem d_M_hears_36 : decode (mC m_M_hears) 36 = .ok (.iload_n 1, 1) := by decide +kernel
theorem d_M_hears_37 : decode (mC m_M_hears) 37 = .ok (.if_icmp .ne (7), 3) := by decide +kernel
theorem d_M_hears_40 : decode (mC m_M_hears) 40 = .ok (.iconst 1, 1) := by decide +kernel
theorem d_M_hears_41 : decode (mC m_M_hears) 41 = .ok (.goto (4), 3) := by decide +kernel
theorem d_M_hears_44 : decode (mC m_M_hears) 44 = .ok (.iconst 0, 1) := by decide +kernel
theorem d_M_hears_45 : decode (mC m_M_hears) 45 = .ok (.istore_n 3, 1) := by decide +kernel
theorem d_M_hears_46 : decode (mC m_M_hears) 46 = .ok (.iinc 4 (1), 3) := by decide +kernel
theorem d_M_hears_49 : decode (mC m_M_hears) 49 = .ok (.goto (-44), 3) := by decide +kernel
theorem d_M_hears_52 : decode (mC m_M_hears) 52 = .ok (.iload_n 3, 1) := by decide +kernel
theorem d_M_hears_53 : decode (mC m_M_hears) 53 = .ok (.ireturn, 1) := by decide +kernel
theorem d_M_endFamily_0 : decode (mC m_M_endFamily) 0 = .ok (.aload_n 0, 1) := by decide +kernel
theorem d_M_endFamily_1 : decode (mC m_M_endFamily) 1 = .ok (.getfield 146, 3) := by decide +kernel
theorem d_M_endFamily_4 : decode (mC m_M_endFamily) 4 = .ok (.iload_n 1, 1) := by decide +kernel
theorem d_M_endFamily_5 : decode (mC m_M_endFamily) 5 = .ok (.baload, 1) := by decide +kernel
theorem d_M_endFamily_6 : decode (mC m_M_endFamily) 6 = .ok (.ifCond .ne (4), 3) := by decide +kernel
theorem d_M_endFamily_9 : decode (mC m_M_endFamily) 9 = .ok (.return_, 1) := by decide +kernel
theorem d_M_endFamily_10 : decode (mC m_M_endFamily) 10 = .ok (.aload_n 0, 1) := by decide +kernel
theorem d_M_endFamily_11 : decode (mC m_M_endFamily) 11 = .ok (.getfield 146, 3) := by decide +kernel
theorem d_M_endFamily_14 : decode (mC m_M_endFamily) 14 = .ok (.iload_n 1, 1) := by decide +kernel
theorem d_M_endFamily_15 : decode (mC m_M_endFamily) 15 = .ok (.iconst 0, 1) := by decide +kernel
theorem d_M_endFamily_16 : decode (mC m_M_endFamily) 16 = .ok (.bastore, 1) := by decide +kernel
theorem d_M_endFamily_17 : decode (mC m_M_endFamily) 17 = .ok (.aload_n 0, 1) := by decide +kernel
theorem d_M_endFamily_18 : decode (mC m_M_endFamily) 18 = .ok (.iconst 3, 1) := by decide +kernel
theorem d_M_endFamily_19 : decode (mC m_M_endFamily) 19 = .ok (.iload_n 1, 1) := by decide +kernel
theorem d_M_endFamily_20 : decode (mC m_M_endFamily) 20 = .ok (.invokevirtual 255, 3) := by decide +kernel
theorem d_M_endFamily_23 : decode (mC m_M_endFamily) 23 = .ok (.iconst 0, 1) := by decide +kernel
theorem d_M_endFamily_24 : decode (mC m_M_endFamily) 24 = .ok (.istore_n 2, 1) := by decide +kernel
theorem d_M_endFamily_25 : decode (mC m_M_endFamily) 25 = .ok (.iload_n 2, 1) := by decide +kernel
theorem d_M_endFamily_26 : decode (mC m_M_endFamily) 26 = .ok (.iconst 4, 1) := by decide +kernel
theorem d_M_endFamily_27 : decode (mC m_M_endFamily) 27 = .ok (.if_icmp .ge (43), 3) := by decide +kernel
theorem d_M_endFamily_30 : decode (mC m_M_endFamily) 30 = .ok (.aload_n 0, 1) := by decide +kernel
theorem d_M_endFamily_31 : decode (mC m_M_endFamily) 31 = .ok (.getfield 192, 3) := by decide +kernel
theorem d_M_endFamily_34 : decode (mC m_M_endFamily) 34 = .ok (.bipush (60), 2) := by decide +kernel
theorem d_M_endFamily_36 : decode (mC m_M_endFamily) 36 = .ok (.iload_n 2, 1) := by decide +kernel
theorem d_M_endFamily_37 : decode (mC m_M_endFamily) 37 = .ok (.imul, 1) := by decide +kernel
theorem d_M_endFamily_38 : decode (mC m_M_endFamily) 38 = .ok (.iload_n 1, 1) := by decide +kernel
theorem d_M_endFamily_39 : decode (mC m_M_endFamily) 39 = .ok (.iadd, 1) := by decide +kernel
theorem d_M_endFamily_40 : decode (mC m_M_endFamily) 40 = .ok (.aload_n 0, 1) := by decide +kernel
theorem d_M_endFamily_41 : decode (mC m_M_endFamily) 41 = .ok (.getfield 183, 3) := by decide +kernel
theorem d_M_endFamily_44 : decode (mC m_M_endFamily) 44 = .ok (.iload_n 2, 1) := by decide +kernel
theorem d_M_endFamily_45 : decode (mC m_M_endFamily) 45 = .ok (.baload, 1) := by decide +kernel
theorem d_M_endFamily_46 : decode (mC m_M_endFamily) 46 = .ok (.ifCond .ne (16), 3) := by decide +kernel
theorem d_M_endFamily_49 : decode (mC m_M_endFamily) 49 = .ok (.aload_n 0, 1) := by decide +kernel
theorem d_M_endFamily_50 : decode (mC m_M_endFamily) 50 = .ok (.iload_n 2, 1) := by decide +kernel
theorem d_M_endFamily_51 : decode (mC m_M_endFamily) 51 = .ok (.iload_n 1, 1) := by decide +kernel
theorem d_M_endFamily_52 : decode (mC m_M_endFamily) 52 = .ok (.invokevirtual 259, 3) := by decide +kernel
theorem d_M_endFamily_55 : decode (mC m_M_endFamily) 55 = .ok (.ifCond .eq (7), 3) := by decide +kernel
theorem d_M_endFamily_58 : decode (mC m_M_endFamily) 58 = .ok (.iconst 1, 1) := by decide +kernel
theorem d_M_endFamily_59 : decode (mC m_M_endFamily) 59 = .ok (.goto (4), 3) := by decide +kernel
theorem d_M_endFamily_62 : decode (mC m_M_endFamily) 62 = .ok (.iconst 0, 1) := by decide +kernel
theorem d_M_endFamily_63 : decode (mC m_M_endFamily) 63 = .ok (.bastore, 1) := by decide +kernel
theorem d_M_endFamily_64 : decode (mC m_M_endFamily) 64 = .ok (.iinc 2 (1), 3) := by decide +kernel
theorem d_M_endFamily_67 : decode (mC m_M_endFamily) 67 = .ok (.goto (-42), 3) := by decide +kernel
theorem d_M_endFamily_70 : decode (mC m_M_endFamily) 70 = .ok (.return_, 1) := by decide +kernel
theorem d_M_endFamiliesOf_0 : decode (mC m_M_endFamiliesOf) 0 = .ok (.iconst 0, 1) := by decide +kernel
theorem d_M_endFamiliesOf_1 : decode (mC m_M_endFamiliesOf) 1 = .ok (.istore_n 2, 1) := by decide +kernel
theorem d_M_endFamiliesOf_2 : decode (mC m_M_endFamiliesOf) 2 = .ok (.iload_n 2, 1) := by decide +kernel
theorem d_M_endFamiliesOf_3 : decode (mC m_M_endFamiliesOf) 3 = .ok (.aload_n 0, 1) := by decide +kernel
theorem d_M_endFamiliesOf_4 : decode (mC m_M_endFamiliesOf) 4 = .ok (.getfield 238, 3) := by decide +kernel
theorem d_M_endFamiliesOf_7 : decode (mC m_M_endFamiliesOf) 7 = .ok (.if_icmp .ge (29), 3) := by decide +kernel
theorem d_M_endFamiliesOf_10 : decode (mC m_M_endFamiliesOf) 10 = .ok (.aload_n 0, 1) := by decide +kernel
theorem d_M_endFamiliesOf_11 : decode (mC m_M_endFamiliesOf) 11 = .ok (.getfield 116, 3) := by decide +kernel
theorem d_M_endFamiliesOf_14 : decode (mC m_M_endFamiliesOf) 14 = .ok (.aload_n 0, 1) := by decide +kernel
theorem d_M_endFamiliesOf_15 : decode (mC m_M_endFamiliesOf) 15 = .ok (.getfield 134, 3) := by decide +kernel
theorem d_M_endFamiliesOf_18 : decode (mC m_M_endFamiliesOf) 18 = .ok (.iload_n 2, 1) := by decide +kernel
theorem d_M_endFamiliesOf_19 : decode (mC m_M_endFamiliesOf) 19 = .ok (.iaload, 1) := by decide +kernel
theorem d_M_endFamiliesOf_20 : decode (mC m_M_endFamiliesOf) 20 = .ok (.iaload, 1) := by decide +kernel
theorem d_M_endFamiliesOf_21 : decode (mC m_M_endFamiliesOf) 21 = .ok (.iload_n 1, 1) := by decide +kernel
theorem d_M_endFamiliesOf_22 : decode (mC m_M_endFamiliesOf) 22 = .ok (.if_icmp .ne (8), 3) := by decide +kernel
theorem d_M_endFamiliesOf_25 : decode (mC m_M_endFamiliesOf) 25 = .ok (.aload_n 0, 1) := by decide +kernel
theorem d_M_endFamiliesOf_26 : decode (mC m_M_endFamiliesOf) 26 = .ok (.iload_n 2, 1) := by decide +kernel
theorem d_M_endFamiliesOf_27 : decode (mC m_M_endFamiliesOf) 27 = .ok (.invokevirtual 263, 3) := by decide +kernel
theorem d_M_endFamiliesOf_30 : decode (mC m_M_endFamiliesOf) 30 = .ok (.iinc 2 (1), 3) := by decide +kernel
theorem d_M_endFamiliesOf_33 : decode (mC m_M_endFamiliesOf) 33 = .ok (.goto (-31), 3) := by decide +kernel
theorem d_M_endFamiliesOf_36 : decode (mC m_M_endFamiliesOf) 36 = .ok (.return_, 1) := by decide +kernel
theorem d_M_endSession_0 : decode (mC m_M_endSession) 0 = .ok (.aload_n 0, 1) := by decide +kernel
theorem d_M_endSession_1 : decode (mC m_M_endSession) 1 = .ok (.getfield 104, 3) := by decide +kernel
theorem d_M_endSession_4 : decode (mC m_M_endSession) 4 = .ok (.iload_n 1, 1) := by decide +kernel
theorem d_M_endSession_5 : decode (mC m_M_endSession) 5 = .ok (.iconst 0, 1) := by decide +kernel
theorem d_M_endSession_6 : decode (mC m_M_endSession) 6 = .ok (.bastore, 1) := by decide +kernel
theorem d_M_endSession_7 : decode (mC m_M_endSession) 7 = .ok (.aload_n 0, 1) := by decide +kernel
theorem d_M_endSession_8 : decode (mC m_M_endSession) 8 = .ok (.iconst 1, 1) := by decide +kernel
theorem d_M_endSession_9 : decode (mC m_M_endSession) 9 = .ok (.iload_n 1, 1) := by decide +kernel
theorem d_M_endSession_10 : decode (mC m_M_endSession) 10 = .ok (.invokevirtual 255, 3) := by decide +kernel
theorem d_M_endSession_13 : decode (mC m_M_endSession) 13 = .ok (.iconst 1, 1) := by decide +kernel
theorem d_M_endSession_14 : decode (mC m_M_endSession) 14 = .ok (.istore_n 2, 1) := by decide +kernel
theorem d_M_endSession_15 : decode (mC m_M_endSession) 15 = .ok (.iconst 0, 1) := by decide +kernel
theorem d_M_endSession_16 : decode (mC m_M_endSession) 16 = .ok (.istore_n 3, 1) := by decide +kernel
theorem d_M_endSession_17 : decode (mC m_M_endSession) 17 = .ok (.iload_n 3, 1) := by decide +kernel
theorem d_M_endSession_18 : decode (mC m_M_endSession) 18 = .ok (.aload_n 0, 1) := by decide +kernel
theorem d_M_endSession_19 : decode (mC m_M_endSession) 19 = .ok (.getfield 235, 3) := by decide +kernel
theorem d_M_endSession_22 : decode (mC m_M_endSession) 22 = .ok (.if_icmp .ge (49), 3) := by decide +kernel
theorem d_M_endSession_25 : decode (mC m_M_endSession) 25 = .ok (.aload_n 0, 1) := by decide +kernel
theorem d_M_endSession_26 : decode (mC m_M_endSession) 26 = .ok (.getfield 104, 3) := by decide +kernel
theorem d_M_endSession_29 : decode (mC m_M_endSession) 29 = .ok (.iload_n 3, 1) := by decide +kernel
theorem d_M_endSession_30 : decode (mC m_M_endSession) 30 = .ok (.baload, 1) := by decide +kernel
theorem d_M_endSession_31 : decode (mC m_M_endSession) 31 = .ok (.ifCond .eq (34), 3) := by decide +kernel
theorem d_M_endSession_34 : decode (mC m_M_endSession) 34 = .ok (.aload_n 0, 1) := by decide +kernel
theorem d_M_endSession_35 : decode (mC m_M_endSession) 35 = .ok (.getfield 101, 3) := by decide +kernel
theorem d_M_endSession_38 : decode (mC m_M_endSession) 38 = .ok (.iload_n 3, 1) := by decide +kernel
theorem d_M_endSession_39 : decode (mC m_M_endSession) 39 = .ok (.iaload, 1) := by decide +kernel
theorem d_M_endSession_40 : decode (mC m_M_endSession) 40 = .ok (.iload_n 1, 1) := by decide +kernel
theorem d_M_endSession_41 : decode (mC m_M_endSession) 41 = .ok (.if_icmp .ne (24), 3) := by decide +kernel
theorem d_M_endSession_44 : decode (mC m_M_endSession) 44 = .ok (.aload_n 0, 1) := by decide +kernel
theorem d_M_endSession_45 : decode (mC m_M_endSession) 45 = .ok (.getfield 104, 3) := by decide +kernel
theorem d_M_endSession_48 : decode (mC m_M_endSession) 48 = .ok (.iload_n 3, 1) := by decide +kernel
theorem d_M_endSession_49 : decode (mC m_M_endSession) 49 = .ok (.iconst 0, 1) := by decide +kernel
theorem d_M_endSession_50 : decode (mC m_M_endSession) 50 = .ok (.bastore, 1) := by decide +kernel
theorem d_M_endSession_51 : decode (mC m_M_endSession) 51 = .ok (.aload_n 0, 1) := by decide +kernel
theorem d_M_endSession_52 : decode (mC m_M_endSession) 52 = .ok (.iconst 1, 1) := by decide +kernel
theorem d_M_endSession_53 : decode (mC m_M_endSession) 53 = .ok (.iload_n 3, 1) := by decide +kernel
theorem d_M_endSession_54 : decode (mC m_M_endSession) 54 = .ok (.invokevirtual 255, 3) := by decide +kernel
theorem d_M_endSession_57 : decode (mC m_M_endSession) 57 = .ok (.aload_n 0, 1) := by decide +kernel
theorem d_M_endSession_58 : decode (mC m_M_endSession) 58 = .ok (.iload_n 3, 1) := by decide +kernel
theorem d_M_endSession_59 : decode (mC m_M_endSession) 59 = .ok (.invokevirtual 267, 3) := by decide +kernel
theorem d_M_endSession_62 : decode (mC m_M_endSession) 62 = .ok (.iinc 2 (1), 3) := by decide +kernel
theorem d_M_endSession_65 : decode (mC m_M_endSession) 65 = .ok (.iinc 3 (1), 3) := by decide +kernel
theorem d_M_endSession_68 : decode (mC m_M_endSession) 68 = .ok (.goto (-51), 3) := by decide +kernel
theorem d_M_endSession_71 : decode (mC m_M_endSession) 71 = .ok (.aload_n 0, 1) := by decide +kernel
theorem d_M_endSession_72 : decode (mC m_M_endSession) 72 = .ok (.iload_n 1, 1) := by decide +kernel
theorem d_M_endSession_73 : decode (mC m_M_endSession) 73 = .ok (.invokevirtual 267, 3) := by decide +kernel
theorem d_M_endSession_76 : decode (mC m_M_endSession) 76 = .ok (.iload_n 2, 1) := by decide +kernel
theorem d_M_endSession_77 : decode (mC m_M_endSession) 77 = .ok (.ireturn, 1) := by decide +kernel
theorem d_M_pass_0 : decode (mC m_M_pass) 0 = .ok (.iload_n 1, 1) := by decide +kernel
theorem d_M_pass_1 : decode (mC m_M_pass) 1 = .ok (.iconst 1, 1) := by decide +kernel
theorem d_M_pass_2 : decode (mC m_M_pass) 2 = .ok (.sipush (600), 3) := by decide +kernel
theorem d_M_pass_5 : decode (mC m_M_pass) 5 = .ok (.invokestatic 228, 3) := by decide +kernel
theorem d_M_pass_8 : decode (mC m_M_pass) 8 = .ok (.istore_n 2, 1) := by decide +kernel
theorem d_M_pass_9 : decode (mC m_M_pass) 9 = .ok (.aload_n 0, 1) := by decide +kernel
theorem d_M_pass_10 : decode (mC m_M_pass) 10 = .ok (.iload_n 2, 1) := by decide +kernel
theorem d_M_pass_11 : decode (mC m_M_pass) 11 = .ok (.iload_n 2, 1) := by decide +kernel
theorem d_M_pass_12 : decode (mC m_M_pass) 12 = .ok (.ifCond .eq (19), 3) := by decide +kernel
theorem d_M_pass_15 : decode (mC m_M_pass) 15 = .ok (.aload_n 0, 1) := by decide +kernel
theorem d_M_pass_16 : decode (mC m_M_pass) 16 = .ok (.getfield 247, 3) := by decide +kernel
theorem d_M_pass_19 : decode (mC m_M_pass) 19 = .ok (.iload_n 1, 1) := by decide +kernel
theorem d_M_pass_20 : decode (mC m_M_pass) 20 = .ok (.iadd, 1) := by decide +kernel
theorem d_M_pass_21 : decode (mC m_M_pass) 21 = .ok (.sipush (30000), 3) := by decide +kernel
theorem d_M_pass_24 : decode (mC m_M_pass) 24 = .ok (.if_icmp .gt (7), 3) := by decide +kernel
theorem d_M_pass_27 : decode (mC m_M_pass) 27 = .ok (.iconst 1, 1) := by decide +kernel
theorem d_M_pass_28 : decode (mC m_M_pass) 28 = .ok (.goto (4), 3) := by decide +kernel
theorem d_M_pass_31 : decode (mC m_M_pass) 31 = .ok (.iconst 0, 1) := by decide +kernel
theorem d_M_pass_32 : decode (mC m_M_pass) 32 = .ok (.invokevirtual 274, 3) := by decide +kernel
theorem d_M_pass_35 : decode (mC m_M_pass) 35 = .ok (.ifCond .ne (5), 3) := by decide +kernel
theorem d_M_pass_38 : decode (mC m_M_pass) 38 = .ok (.iconst 0, 1) := by decide +kernel
theorem d_M_pass_39 : decode (mC m_M_pass) 39 = .ok (.ireturn, 1) := by decide +kernel
theorem d_M_pass_40 : decode (mC m_M_pass) 40 = .ok (.iconst 0, 1) := by decide +kernel
theorem d_M_pass_41 : decode (mC m_M_pass) 41 = .ok (.istore_n 3, 1) := by decide +kernel
theorem d_M_pass_42 : decode (mC m_M_pass) 42 = .ok (.iconst 0, 1) := by decide +kernel
theorem d_M_pass_43 : decode (mC m_M_pass) 43 = .ok (.istore 4, 2) := by decide +kernel
theorem d_M_pass_45 : decode (mC m_M_pass) 45 = .ok (.iload 4, 2) := by decide +kernel
theorem d_M_pass_47 : decode (mC m_M_pass) 47 = .ok (.iload_n 1, 1) := by decide +kernel
theorem d_M_pass_48 : decode (mC m_M_pass) 48 = .ok (.if_icmp .ge (164), 3) := by decide +kernel
theorem d_M_pass_51 : decode (mC m_M_pass) 51 = .ok (.aload_n 0, 1) := by decide +kernel
theorem d_M_pass_52 : decode (mC m_M_pass) 52 = .ok (.dup, 1) := by decide +kernel
theorem d_M_pass_53 : decode (mC m_M_pass) 53 = .ok (.getfield 247, 3) := by decide +kernel
theorem d_M_pass_56 : decode (mC m_M_pass) 56 = .ok (.iconst 1, 1) := by decide +kernel
theorem d_M_pass_57 : decode (mC m_M_pass) 57 = .ok (.iadd, 1) := by decide +kernel
theorem d_M_pass_58 : decode (mC m_M_pass) 58 = .ok (.putfield 247, 3) := by decide +kernel
theorem d_M_pass_61 : decode (mC m_M_pass) 61 = .ok (.aload_n 0, 1) := by decide +kernel
theorem d_M_pass_62 : decode (mC m_M_pass) 62 = .ok (.getfield 174, 3) := by decide +kernel
theorem d_M_pass_65 : decode (mC m_M_pass) 65 = .ok (.iconst (-1), 1) := by decide +kernel
theorem d_M_pass_66 : decode (mC m_M_pass) 66 = .ok (.if_icmp .eq (52), 3) := by decide +kernel
theorem d_M_pass_69 : decode (mC m_M_pass) 69 = .ok (.aload_n 0, 1) := by decide +kernel
theorem d_M_pass_70 : decode (mC m_M_pass) 70 = .ok (.getfield 247, 3) := by decide +kernel
theorem d_M_pass_73 : decode (mC m_M_pass) 73 = .ok (.aload_n 0, 1) := by decide +kernel
theorem d_M_pass_74 : decode (mC m_M_pass) 74 = .ok (.getfield 278, 3) := by decide +kernel
theorem d_M_pass_77 : decode (mC m_M_pass) 77 = .ok (.if_icmp .lt (41), 3) := by decide +kernel
theorem d_M_pass_80 : decode (mC m_M_pass) 80 = .ok (.aload_n 0, 1) := by decide +kernel
theorem d_M_pass_81 : decode (mC m_M_pass) 81 = .ok (.getfield 180, 3) := by decide +kernel
theorem d_M_pass_84 : decode (mC m_M_pass) 84 = .ok (.aload_n 0, 1) := by decide +kernel
theorem d_M_pass_85 : decode (mC m_M_pass) 85 = .ok (.getfield 281, 3) := by decide +kernel
theorem d_M_pass_88 : decode (mC m_M_pass) 88 = .ok (.aload_n 0, 1) := by decide +kernel
theorem d_M_pass_89 : decode (mC m_M_pass) 89 = .ok (.getfield 247, 3) := by decide +kernel
theorem d_M_pass_92 : decode (mC m_M_pass) 92 = .ok (.bipush (20), 2) := by decide +kernel
theorem d_M_pass_94 : decode (mC m_M_pass) 94 = .ok (.iadd, 1) := by decide +kernel
theorem d_M_pass_95 : decode (mC m_M_pass) 95 = .ok (.iastore, 1) := by decide +kernel
theorem d_M_pass_96 : decode (mC m_M_pass) 96 = .ok (.aload_n 0, 1) := by decide +kernel
theorem d_M_pass_97 : decode (mC m_M_pass) 97 = .ok (.aload_n 0, 1) := by decide +kernel
theorem d_M_pass_98 : decode (mC m_M_pass) 98 = .ok (.getfield 174, 3) := by decide +kernel
theorem d_M_pass_101 : decode (mC m_M_pass) 101 = .ok (.putfield 281, 3) := by decide +kernel
theorem d_M_pass_104 : decode (mC m_M_pass) 104 = .ok (.aload_n 0, 1) := by decide +kernel
theorem d_M_pass_105 : decode (mC m_M_pass) 105 = .ok (.iconst (-1), 1) := by decide +kernel
theorem d_M_pass_106 : decode (mC m_M_pass) 106 = .ok (.putfield 174, 3) := by decide +kernel
theorem d_M_pass_109 : decode (mC m_M_pass) 109 = .ok (.aload_n 0, 1) := by decide +kernel
theorem d_M_pass_110 : decode (mC m_M_pass) 110 = .ok (.iconst 5, 1) := by decide +kernel
theorem d_M_pass_111 : decode (mC m_M_pass) 111 = .ok (.aload_n 0, 1) := by decide +kernel
theorem d_M_pass_112 : decode (mC m_M_pass) 112 = .ok (.getfield 281, 3) := by decide +kernel
theorem d_M_pass_115 : decode (mC m_M_pass) 115 = .ok (.invokevirtual 255, 3) := by decide +kernel
theorem d_M_pass_118 : decode (mC m_M_pass) 118 = .ok (.iconst 0, 1) := by decide +kernel
theorem d_M_pass_119 : decode (mC m_M_pass) 119 = .ok (.istore 5, 2) := by decide +kernel
theorem d_M_pass_121 : decode (mC m_M_pass) 121 = .ok (.iload 5, 2) := by decide +kernel
theorem d_M_pass_123 : decode (mC m_M_pass) 123 = .ok (.aload_n 0, 1) := by decide +kernel
theorem d_M_pass_124 : decode (mC m_M_pass) 124 = .ok (.getfield 235, 3) := by decide +kernel
theorem d_M_pass_127 : decode (mC m_M_pass) 127 = .ok (.if_icmp .ge (79), 3) := by decide +kernel
theorem d_M_pass_130 : decode (mC m_M_pass) 130 = .ok (.aload_n 0, 1) := by decide +kernel
theorem d_M_pass_131 : decode (mC m_M_pass) 131 = .ok (.getfield 104, 3) := by decide +kernel
theorem d_M_pass_134 : decode (mC m_M_pass) 134 = .ok (.iload 5, 2) := by decide +kernel
theorem d_M_pass_136 : decode (mC m_M_pass) 136 = .ok (.baload, 1) := by decide +kernel
theorem d_M_pass_137 : decode (mC m_M_pass) 137 = .ok (.ifCond .eq (42), 3) := by decide +kernel
theorem d_M_pass_140 : decode (mC m_M_pass) 140 = .ok (.aload_n 0, 1) := by decide +kernel
theorem d_M_pass_141 : decode (mC m_M_pass) 141 = .ok (.getfield 247, 3) := by decide +kernel
theorem d_M_pass_144 : decode (mC m_M_pass) 144 = .ok (.aload_n 0, 1) := by decide +kernel
theorem d_M_pass_145 : decode (mC m_M_pass) 145 = .ok (.getfield 98, 3) := by decide +kernel
theorem d_M_pass_148 : decode (mC m_M_pass) 148 = .ok (.iload 5, 2) := by decide +kernel
theorem d_M_pass_150 : decode (mC m_M_pass) 150 = .ok (.iaload, 1) := by decide +kernel
theorem d_M_pass_151 : decode (mC m_M_pass) 151 = .ok (.isub, 1) := by decide +kernel
theorem d_M_pass_152 : decode (mC m_M_pass) 152 = .ok (.bipush (30), 2) := by decide +kernel
theorem d_M_pass_154 : decode (mC m_M_pass) 154 = .ok (.if_icmp .gt (21), 3) := by decide +kernel
theorem d_M_pass_157 : decode (mC m_M_pass) 157 = .ok (.aload_n 0, 1) := by decide +kernel
theorem d_M_pass_158 : decode (mC m_M_pass) 158 = .ok (.getfield 247, 3) := by decide +kernel
theorem d_M_pass_161 : decode (mC m_M_pass) 161 = .ok (.aload_n 0, 1) := by decide +kernel
theorem d_M_pass_162 : decode (mC m_M_pass) 162 = .ok (.getfield 95, 3) := by decide +kernel
theorem d_M_pass_165 : decode (mC m_M_pass) 165 = .ok (.iload 5, 2) := by decide +kernel
theorem d_M_pass_167 : decode (mC m_M_pass) 167 = .ok (.iaload, 1) := by decide +kernel
theorem d_M_pass_168 : decode (mC m_M_pass) 168 = .ok (.isub, 1) := by decide +kernel
theorem d_M_pass_169 : decode (mC m_M_pass) 169 = .ok (.sipush (480), 3) := by decide +kernel
theorem d_M_pass_172 : decode (mC m_M_pass) 172 = .ok (.if_icmp .le (7), 3) := by decide +kernel
theorem d_M_pass_175 : decode (mC m_M_pass) 175 = .ok (.iconst 1, 1) := by decide +kernel
theorem d_M_pass_176 : decode (mC m_M_pass) 176 = .ok (.goto (4), 3) := by decide +kernel
theorem d_M_pass_179 : decode (mC m_M_pass) 179 = .ok (.iconst 0, 1) := by decide +kernel
theorem d_M_pass_180 : decode (mC m_M_pass) 180 = .ok (.istore 6, 2) := by decide +kernel
theorem d_M_pass_182 : decode (mC m_M_pass) 182 = .ok (.iload_n 3, 1) := by decide +kernel
theorem d_M_pass_183 : decode (mC m_M_pass) 183 = .ok (.iload 6, 2) := by decide +kernel
theorem d_M_pass_185 : decode (mC m_M_pass) 185 = .ok (.ifCond .eq (12), 3) := by decide +kernel
theorem d_M_pass_188 : decode (mC m_M_pass) 188 = .ok (.aload_n 0, 1) := by decide +kernel
theorem d_M_pass_189 : decode (mC m_M_pass) 189 = .ok (.iload 5, 2) := by decide +kernel
theorem d_M_pass_191 : decode (mC m_M_pass) 191 = .ok (.invokevirtual 270, 3) := by decide +kernel
theorem d_M_pass_194 : decode (mC m_M_pass) 194 = .ok (.goto (4), 3) := by decide +kernel
theorem d_M_pass_197 : decode (mC m_M_pass) 197 = .ok (.iconst 0, 1) := by decide +kernel
theorem d_M_pass_198 : decode (mC m_M_pass) 198 = .ok (.iadd, 1) := by decide +kernel
theorem d_M_pass_199 : decode (mC m_M_pass) 199 = .ok (.istore_n 3, 1) := by decide +kernel
theorem d_M_pass_200 : decode (mC m_M_pass) 200 = .ok (.iinc 5 (1), 3) := by decide +kernel
theorem d_M_pass_203 : decode (mC m_M_pass) 203 = .ok (.goto (-82), 3) := by decide +kernel
theorem d_M_pass_206 : decode (mC m_M_pass) 206 = .ok (.iinc 4 (1), 3) := by decide +kernel
theorem d_M_pass_209 : decode (mC m_M_pass) 209 = .ok (.goto (-164), 3) := by decide +kernel
theorem d_M_pass_212 : decode (mC m_M_pass) 212 = .ok (.iload_n 3, 1) := by decide +kernel
theorem d_M_pass_213 : decode (mC m_M_pass) 213 = .ok (.ireturn, 1) := by decide +kernel
theorem d_K_findPerson_0 : decode (mC m_K_findPerson) 0 = .ok (.iload_n 1, 1) := by decide +kernel
theorem d_K_findPerson_1 : decode (mC m_K_findPerson) 1 = .ok (.ifCond .lt (21), 3) := by decide +kernel
theorem d_K_findPerson_4 : decode (mC m_K_findPerson) 4 = .ok (.iload_n 1, 1) := by decide +kernel
theorem d_K_findPerson_5 : decode (mC m_K_findPerson) 5 = .ok (.aload_n 0, 1) := by decide +kernel
theorem d_K_findPerson_6 : decode (mC m_K_findPerson) 6 = .ok (.getfield 18, 3) := by decide +kernel
theorem d_K_findPerson_9 : decode (mC m_K_findPerson) 9 = .ok (.arraylength, 1) := by decide +kernel
theorem d_K_findPerson_10 : decode (mC m_K_findPerson) 10 = .ok (.if_icmp .ge (12), 3) := by decide +kernel
theorem d_K_findPerson_13 : decode (mC m_K_findPerson) 13 = .ok (.aload_n 0, 1) := by decide +kernel
theorem d_K_findPerson_14 : decode (mC m_K_findPerson) 14 = .ok (.getfield 18, 3) := by decide +kernel
theorem d_K_findPerson_17 : decode (mC m_K_findPerson) 17 = .ok (.iload_n 1, 1) := by decide +kernel
theorem d_K_findPerson_18 : decode (mC m_K_findPerson) 18 = .ok (.aaload, 1) := by decide +kernel
theorem d_K_findPerson_19 : decode (mC m_K_findPerson) 19 = .ok (.goto (4), 3) := by decide +kernel
theorem d_K_findPerson_22 : decode (mC m_K_findPerson) 22 = .ok (.aconst_null, 1) := by decide +kernel
theorem d_K_findPerson_23 : decode (mC m_K_findPerson) 23 = .ok (.astore_n 2, 1) := by decide +kernel
theorem d_K_findPerson_24 : decode (mC m_K_findPerson) 24 = .ok (.aload_n 2, 1) := by decide +kernel
theorem d_K_findPerson_25 : decode (mC m_K_findPerson) 25 = .ok (.ifnonnull (11), 3) := by decide +kernel
theorem d_K_findPerson_28 : decode (mC m_K_findPerson) 28 = .ok (.new 444, 3) := by decide +kernel
theorem d_K_findPerson_31 : decode (mC m_K_findPerson) 31 = .ok (.dup, 1) := by decide +kernel
theorem d_K_findPerson_32 : decode (mC m_K_findPerson) 32 = .ok (.invokespecial 446, 3) := by decide +kernel
theorem d_K_findPerson_35 : decode (mC m_K_findPerson) 35 = .ok (.athrow, 1) := by decide +kernel
theorem d_K_findPerson_36 : decode (mC m_K_findPerson) 36 = .ok (.aload_n 2, 1) := by decide +kernel
theorem d_K_findPerson_37 : decode (mC m_K_findPerson) 37 = .ok (.areturn, 1) := by decide +kernel
theorem d_K_isFactor_0 : decode (mC m_K_isFactor) 0 = .ok (.iload_n 0, 1) := by decide +kernel
theorem d_K_isFactor_1 : decode (mC m_K_isFactor) 1 = .ok (.iconst 0, 1) := by decide +kernel
theorem d_K_isFactor_2 : decode (mC m_K_isFactor) 2 = .ok (.iconst 2, 1) := by decide +kernel
theorem d_K_isFactor_3 : decode (mC m_K_isFactor) 3 = .ok (.invokestatic 84, 3) := by decide +kernel
theorem d_K_isFactor_6 : decode (mC m_K_isFactor) 6 = .ok (.ireturn, 1) := by decide +kernel
theorem d_Person_stateOf_0 : decode (mC m_Person_stateOf) 0 = .ok (.iload_n 1, 1) := by decide +kernel
theorem d_Person_stateOf_1 : decode (mC m_Person_stateOf) 1 = .ok (.invokestatic 34, 3) := by decide +kernel
theorem d_Person_stateOf_4 : decode (mC m_Person_stateOf) 4 = .ok (.ifCond .eq (12), 3) := by decide +kernel
theorem d_Person_stateOf_7 : decode (mC m_Person_stateOf) 7 = .ok (.aload_n 0, 1) := by decide +kernel
theorem d_Person_stateOf_8 : decode (mC m_Person_stateOf) 8 = .ok (.getfield 9, 3) := by decide +kernel
theorem d_Person_stateOf_11 : decode (mC m_Person_stateOf) 11 = .ok (.iload_n 1, 1) := by decide +kernel
theorem d_Person_stateOf_12 : decode (mC m_Person_stateOf) 12 = .ok (.iaload, 1) := by decide +kernel
theorem d_Person_stateOf_13 : decode (mC m_Person_stateOf) 13 = .ok (.goto (4), 3) := by decide +kernel
theorem d_Person_stateOf_16 : decode (mC m_Person_stateOf) 16 = .ok (.iconst 0, 1) := by decide +kernel
theorem d_Person_stateOf_17 : decode (mC m_Person_stateOf) 17 = .ok (.ireturn, 1) := by decide +kernel
theorem d_Person_makeReady_0 : decode (mC m_Person_makeReady) 0 = .ok (.iload_n 1, 1) := by decide +kernel
theorem d_Person_makeReady_1 : decode (mC m_Person_makeReady) 1 = .ok (.invokestatic 34, 3) := by decide +kernel
theorem d_Person_makeReady_4 : decode (mC m_Person_makeReady) 4 = .ok (.ifCond .ne (4), 3) := by decide +kernel
theorem d_Person_makeReady_7 : decode (mC m_Person_makeReady) 7 = .ok (.return_, 1) := by decide +kernel
theorem d_Person_makeReady_8 : decode (mC m_Person_makeReady) 8 = .ok (.aload_n 0, 1) := by decide +kernel
theorem d_Person_makeReady_9 : decode (mC m_Person_makeReady) 9 = .ok (.getfield 9, 3) := by decide +kernel
theorem d_Person_makeReady_12 : decode (mC m_Person_makeReady) 12 = .ok (.iload_n 1, 1) := by decide +kernel
theorem d_Person_makeReady_13 : decode (mC m_Person_makeReady) 13 = .ok (.iconst 1, 1) := by decide +kernel
theorem d_Person_makeReady_14 : decode (mC m_Person_makeReady) 14 = .ok (.iastore, 1) := by decide +kernel
theorem d_Person_makeReady_15 : decode (mC m_Person_makeReady) 15 = .ok (.aload_n 0, 1) := by decide +kernel
theorem d_Person_makeReady_16 : decode (mC m_Person_makeReady) 16 = .ok (.getfield 15, 3) := by decide +kernel
theorem d_Person_makeReady_19 : decode (mC m_Person_makeReady) 19 = .ok (.iload_n 1, 1) := by decide +kernel
theorem d_Person_makeReady_20 : decode (mC m_Person_makeReady) 20 = .ok (.iconst 0, 1) := by decide +kernel
theorem d_Person_makeReady_21 : decode (mC m_Person_makeReady) 21 = .ok (.iastore, 1) := by decide +kernel
theorem d_Person_makeReady_22 : decode (mC m_Person_makeReady) 22 = .ok (.iload_n 1, 1) := by decide +kernel
theorem d_Person_makeReady_23 : decode (mC m_Person_makeReady) 23 = .ok (.iconst 2, 1) := by decide +kernel
theorem d_Person_makeReady_24 : decode (mC m_Person_makeReady) 24 = .ok (.if_icmp .ne (8), 3) := by decide +kernel
theorem d_Person_makeReady_27 : decode (mC m_Person_makeReady) 27 = .ok (.aload_n 0, 1) := by decide +kernel
theorem d_Person_makeReady_28 : decode (mC m_Person_makeReady) 28 = .ok (.iconst 0, 1) := by decide +kernel
theorem d_Person_makeReady_29 : decode (mC m_Person_makeReady) 29 = .ok (.putfield 38, 3) := by decide +kernel
theorem d_Person_makeReady_32 : decode (mC m_Person_makeReady) 32 = .ok (.return_, 1) := by decide +kernel
theorem d_K_enroll_0 : decode (mC m_K_enroll) 0 = .ok (.aload_n 0, 1) := by decide +kernel
theorem d_K_enroll_1 : decode (mC m_K_enroll) 1 = .ok (.iload_n 1, 1) := by decide +kernel
theorem d_K_enroll_2 : decode (mC m_K_enroll) 2 = .ok (.invokevirtual 108, 3) := by decide +kernel
theorem d_K_enroll_5 : decode (mC m_K_enroll) 5 = .ok (.astore_n 3, 1) := by decide +kernel
theorem d_K_enroll_6 : decode (mC m_K_enroll) 6 = .ok (.iload_n 2, 1) := by decide +kernel
theorem d_K_enroll_7 : decode (mC m_K_enroll) 7 = .ok (.invokestatic 112, 3) := by decide +kernel
theorem d_K_enroll_10 : decode (mC m_K_enroll) 10 = .ok (.invokestatic 88, 3) := by decide +kernel
theorem d_K_enroll_13 : decode (mC m_K_enroll) 13 = .ok (.aload_n 3, 1) := by decide +kernel
theorem d_K_enroll_14 : decode (mC m_K_enroll) 14 = .ok (.iload_n 2, 1) := by decide +kernel
theorem d_K_enroll_15 : decode (mC m_K_enroll) 15 = .ok (.invokevirtual 116, 3) := by decide +kernel
theorem d_K_enroll_18 : decode (mC m_K_enroll) 18 = .ok (.istore 4, 2) := by decide +kernel
theorem d_K_enroll_20 : decode (mC m_K_enroll) 20 = .ok (.aload_n 3, 1) := by decide +kernel
theorem d_K_enroll_21 : decode (mC m_K_enroll) 21 = .ok (.iload_n 2, 1) := by decide +kernel
theorem d_K_enroll_22 : decode (mC m_K_enroll) 22 = .ok (.invokevirtual 120, 3) := by decide +kernel
theorem d_K_enroll_25 : decode (mC m_K_enroll) 25 = .ok (.iload 4, 2) := by decide +kernel
theorem d_K_enroll_27 : decode (mC m_K_enroll) 27 = .ok (.ireturn, 1) := by decide +kernel
theorem d_W_enroll_0 : decode (mC m_W_enroll) 0 = .ok (.aload_n 3, 1) := by decide +kernel
theorem d_W_enroll_1 : decode (mC m_W_enroll) 1 = .ok (.iconst 0, 1) := by decide +kernel
theorem d_W_enroll_2 : decode (mC m_W_enroll) 2 = .ok (.aload_n 0, 1) := by decide +kernel
theorem d_W_enroll_3 : decode (mC m_W_enroll) 3 = .ok (.iload_n 1, 1) := by decide +kernel
theorem d_W_enroll_4 : decode (mC m_W_enroll) 4 = .ok (.iload_n 2, 1) := by decide +kernel
theorem d_W_enroll_5 : decode (mC m_W_enroll) 5 = .ok (.invokevirtual 17, 3) := by decide +kernel
theorem d_W_enroll_8 : decode (mC m_W_enroll) 8 = .ok (.i2l, 1) := by decide +kernel
theorem d_W_enroll_9 : decode (mC m_W_enroll) 9 = .ok (.lastore, 1) := by decide +kernel
theorem d_W_enroll_10 : decode (mC m_W_enroll) 10 = .ok (.goto (11), 3) := by decide +kernel
theorem d_W_enroll_13 : decode (mC m_W_enroll) 13 = .ok (.astore 4, 2) := by decide +kernel
theorem d_W_enroll_15 : decode (mC m_W_enroll) 15 = .ok (.iconst 1, 1) := by decide +kernel
theorem d_W_enroll_16 : decode (mC m_W_enroll) 16 = .ok (.ireturn, 1) := by decide +kernel
theorem d_W_enroll_17 : decode (mC m_W_enroll) 17 = .ok (.astore 4, 2) := by decide +kernel
theorem d_W_enroll_19 : decode (mC m_W_enroll) 19 = .ok (.iconst 2, 1) := by decide +kernel
theorem d_W_enroll_20 : decode (mC m_W_enroll) 20 = .ok (.ireturn, 1) := by decide +kernel
theorem d_W_enroll_21 : decode (mC m_W_enroll) 21 = .ok (.iconst 0, 1) := by decide +kernel
theorem d_W_enroll_22 : decode (mC m_W_enroll) 22 = .ok (.ireturn, 1) := by decide +kernel
theorem d_M_isSix_0 : decode (mC m_M_isSix) 0 = .ok (.iload_n 0, 1) := by decide +kernel
theorem d_M_isSix_1 : decode (mC m_M_isSix) 1 = .ok (.iconst 0, 1) := by decide +kernel
theorem d_M_isSix_2 : decode (mC m_M_isSix) 2 = .ok (.iconst 5, 1) := by decide +kernel
theorem d_M_isSix_3 : decode (mC m_M_isSix) 3 = .ok (.invokestatic 228, 3) := by decide +kernel
theorem d_M_isSix_6 : decode (mC m_M_isSix) 6 = .ok (.ireturn, 1) := by decide +kernel
theorem d_M_isFactor_0 : decode (mC m_M_isFactor) 0 = .ok (.iload_n 0, 1) := by decide +kernel
theorem d_M_isFactor_1 : decode (mC m_M_isFactor) 1 = .ok (.iconst 0, 1) := by decide +kernel
theorem d_M_isFactor_2 : decode (mC m_M_isFactor) 2 = .ok (.iconst 2, 1) := by decide +kernel
theorem d_M_isFactor_3 : decode (mC m_M_isFactor) 3 = .ok (.invokestatic 228, 3) := by decide +kernel
theorem d_M_isFactor_6 : decode (mC m_M_isFactor) 6 = .ok (.ireturn, 1) := by decide +kernel
theorem d_M_ready_0 : decode (mC m_M_ready) 0 = .ok (.aload_n 0, 1) := by decide +kernel
theorem d_M_ready_1 : decode (mC m_M_ready) 1 = .ok (.getfield 7, 3) := by decide +kernel
theorem d_M_ready_4 : decode (mC m_M_ready) 4 = .ok (.iconst 3, 1) := by decide +kernel
theorem d_M_ready_5 : decode (mC m_M_ready) 5 = .ok (.iload_n 1, 1) := by decide +kernel
theorem d_M_ready_6 : decode (mC m_M_ready) 6 = .ok (.imul, 1) := by decide +kernel
theorem d_M_ready_7 : decode (mC m_M_ready) 7 = .ok (.iload_n 2, 1) := by decide +kernel
theorem d_M_ready_8 : decode (mC m_M_ready) 8 = .ok (.iadd, 1) := by decide +kernel
theorem d_M_ready_9 : decode (mC m_M_ready) 9 = .ok (.iconst 1, 1) := by decide +kernel
theorem d_M_ready_10 : decode (mC m_M_ready) 10 = .ok (.iastore, 1) := by decide +kernel
theorem d_M_ready_11 : decode (mC m_M_ready) 11 = .ok (.aload_n 0, 1) := by decide +kernel
theorem d_M_ready_12 : decode (mC m_M_ready) 12 = .ok (.getfield 13, 3) := by decide +kernel
theorem d_M_ready_15 : decode (mC m_M_ready) 15 = .ok (.iconst 3, 1) := by decide +kernel
theorem d_M_ready_16 : decode (mC m_M_ready) 16 = .ok (.iload_n 1, 1) := by decide +kernel
theorem d_M_ready_17 : decode (mC m_M_ready) 17 = .ok (.imul, 1) := by decide +kernel
theorem d_M_ready_18 : decode (mC m_M_ready) 18 = .ok (.iload_n 2, 1) := by decide +kernel
theorem d_M_ready_19 : decode (mC m_M_ready) 19 = .ok (.iadd, 1) := by decide +kernel
theorem d_M_ready_20 : decode (mC m_M_ready) 20 = .ok (.iconst 0, 1) := by decide +kernel
theorem d_M_ready_21 : decode (mC m_M_ready) 21 = .ok (.iastore, 1) := by decide +kernel
theorem d_M_ready_22 : decode (mC m_M_ready) 22 = .ok (.iload_n 2, 1) := by decide +kernel
theorem d_M_ready_23 : decode (mC m_M_ready) 23 = .ok (.iconst 2, 1) := by decide +kernel
theorem d_M_ready_24 : decode (mC m_M_ready) 24 = .ok (.if_icmp .ne (10), 3) := by decide +kernel
theorem d_M_ready_27 : decode (mC m_M_ready) 27 = .ok (.aload_n 0, 1) := by decide +kernel
theorem d_M_ready_28 : decode (mC m_M_ready) 28 = .ok (.getfield 16, 3) := by decide +kernel
theorem d_M_ready_31 : decode (mC m_M_ready) 31 = .ok (.iload_n 1, 1) := by decide +kernel
theorem d_M_ready_32 : decode (mC m_M_ready) 32 = .ok (.iconst 0, 1) := by decide +kernel
theorem d_M_ready_33 : decode (mC m_M_ready) 33 = .ok (.iastore, 1) := by decide +kernel
theorem d_M_ready_34 : decode (mC m_M_ready) 34 = .ok (.return_, 1) := by decide +kernel
theorem d_M_enroll_0 : decode (mC m_M_enroll) 0 = .ok (.aload_n 0, 1) := by decide +kernel
theorem d_M_enroll_1 : decode (mC m_M_enroll) 1 = .ok (.iload_n 1, 1) := by decide +kernel
theorem d_M_enroll_2 : decode (mC m_M_enroll) 2 = .ok (.invokestatic 284, 3) := by decide +kernel
theorem d_M_enroll_5 : decode (mC m_M_enroll) 5 = .ok (.iload_n 2, 1) := by decide +kernel
theorem d_M_enroll_6 : decode (mC m_M_enroll) 6 = .ok (.invokestatic 288, 3) := by decide +kernel
theorem d_M_enroll_9 : decode (mC m_M_enroll) 9 = .ok (.invokevirtual 274, 3) := by decide +kernel
theorem d_M_enroll_12 : decode (mC m_M_enroll) 12 = .ok (.ifCond .ne (5), 3) := by decide +kernel
theorem d_M_enroll_15 : decode (mC m_M_enroll) 15 = .ok (.iconst 0, 1) := by decide +kernel
theorem d_M_enroll_16 : decode (mC m_M_enroll) 16 = .ok (.ireturn, 1) := by decide +kernel
theorem d_M_enroll_17 : decode (mC m_M_enroll) 17 = .ok (.aload_n 0, 1) := by decide +kernel
theorem d_M_enroll_18 : decode (mC m_M_enroll) 18 = .ok (.getfield 7, 3) := by decide +kernel
theorem d_M_enroll_21 : decode (mC m_M_enroll) 21 = .ok (.iconst 3, 1) := by decide +kernel
theorem d_M_enroll_22 : decode (mC m_M_enroll) 22 = .ok (.iload_n 1, 1) := by decide +kernel
theorem d_M_enroll_23 : decode (mC m_M_enroll) 23 = .ok (.imul, 1) := by decide +kernel
theorem d_M_enroll_24 : decode (mC m_M_enroll) 24 = .ok (.iload_n 2, 1) := by decide +kernel
theorem d_M_enroll_25 : decode (mC m_M_enroll) 25 = .ok (.iadd, 1) := by decide +kernel
theorem d_M_enroll_26 : decode (mC m_M_enroll) 26 = .ok (.iaload, 1) := by decide +kernel
theorem d_M_enroll_27 : decode (mC m_M_enroll) 27 = .ok (.istore_n 3, 1) := by decide +kernel
theorem d_M_enroll_28 : decode (mC m_M_enroll) 28 = .ok (.aload_n 0, 1) := by decide +kernel
theorem d_M_enroll_29 : decode (mC m_M_enroll) 29 = .ok (.iload_n 1, 1) := by decide +kernel
theorem d_M_enroll_30 : decode (mC m_M_enroll) 30 = .ok (.iload_n 2, 1) := by decide +kernel
theorem d_M_enroll_31 : decode (mC m_M_enroll) 31 = .ok (.invokevirtual 291, 3) := by decide +kernel
theorem d_M_enroll_34 : decode (mC m_M_enroll) 34 = .ok (.iload_n 3, 1) := by decide +kernel
theorem d_M_enroll_35 : decode (mC m_M_enroll) 35 = .ok (.ireturn, 1) := by decide +kernel
theorem d_K_factor_0 : decode (mC m_K_factor) 0 = .ok (.aload_n 0, 1) := by decide +kernel
theorem d_K_factor_1 : decode (mC m_K_factor) 1 = .ok (.iload_n 1, 1) := by decide +kernel
theorem d_K_factor_2 : decode (mC m_K_factor) 2 = .ok (.invokevirtual 108, 3) := by decide +kernel
theorem d_K_factor_5 : decode (mC m_K_factor) 5 = .ok (.astore_n 3, 1) := by decide +kernel
theorem d_K_factor_6 : decode (mC m_K_factor) 6 = .ok (.iload_n 2, 1) := by decide +kernel
theorem d_K_factor_7 : decode (mC m_K_factor) 7 = .ok (.invokestatic 112, 3) := by decide +kernel
theorem d_K_factor_10 : decode (mC m_K_factor) 10 = .ok (.invokestatic 88, 3) := by decide +kernel
theorem d_K_factor_13 : decode (mC m_K_factor) 13 = .ok (.aload_n 3, 1) := by decide +kernel
theorem d_K_factor_14 : decode (mC m_K_factor) 14 = .ok (.iload_n 2, 1) := by decide +kernel
theorem d_K_factor_15 : decode (mC m_K_factor) 15 = .ok (.invokevirtual 116, 3) := by decide +kernel
theorem d_K_factor_18 : decode (mC m_K_factor) 18 = .ok (.ireturn, 1) := by decide +kernel
theorem d_W_factor_0 : decode (mC m_W_factor) 0 = .ok (.aload_n 3, 1) := by decide +kernel
theorem d_W_factor_1 : decode (mC m_W_factor) 1 = .ok (.iconst 0, 1) := by decide +kernel
theorem d_W_factor_2 : decode (mC m_W_factor) 2 = .ok (.aload_n 0, 1) := by decide +kernel
theorem d_W_factor_3 : decode (mC m_W_factor) 3 = .ok (.iload_n 1, 1) := by decide +kernel
theorem d_W_factor_4 : decode (mC m_W_factor) 4 = .ok (.iload_n 2, 1) := by decide +kernel
theorem d_W_factor_5 : decode (mC m_W_factor) 5 = .ok (.invokevirtual 23, 3) := by decide +kernel
theorem d_W_factor_8 : decode (mC m_W_factor) 8 = .ok (.i2l, 1) := by decide +kernel
theorem d_W_factor_9 : decode (mC m_W_factor) 9 = .ok (.lastore, 1) := by decide +kernel
theorem d_W_factor_10 : decode (mC m_W_factor) 10 = .ok (.goto (11), 3) := by decide +kernel
theorem d_W_factor_13 : decode (mC m_W_factor) 13 = .ok (.astore 4, 2) := by decide +kernel
theorem d_W_factor_15 : decode (mC m_W_factor) 15 = .ok (.iconst 1, 1) := by decide +kernel
theorem d_W_factor_16 : decode (mC m_W_factor) 16 = .ok (.ireturn, 1) := by decide +kernel
theorem d_W_factor_17 : decode (mC m_W_factor) 17 = .ok (.astore 4, 2) := by decide +kernel
theorem d_W_factor_19 : decode (mC m_W_factor) 19 = .ok (.iconst 2, 1) := by decide +kernel
theorem d_W_factor_20 : decode (mC m_W_factor) 20 = .ok (.ireturn, 1) := by decide +kernel
theorem d_W_factor_21 : decode (mC m_W_factor) 21 = .ok (.iconst 0, 1) := by decide +kernel
theorem d_W_factor_22 : decode (mC m_W_factor) 22 = .ok (.ireturn, 1) := by decide +kernel
theorem d_M_factor_0 : decode (mC m_M_factor) 0 = .ok (.aload_n 0, 1) := by decide +kernel
theorem d_M_factor_1 : decode (mC m_M_factor) 1 = .ok (.iload_n 1, 1) := by decide +kernel
theorem d_M_factor_2 : decode (mC m_M_factor) 2 = .ok (.invokestatic 284, 3) := by decide +kernel
theorem d_M_factor_5 : decode (mC m_M_factor) 5 = .ok (.iload_n 2, 1) := by decide +kernel
theorem d_M_factor_6 : decode (mC m_M_factor) 6 = .ok (.invokestatic 288, 3) := by decide +kernel
theorem d_M_factor_9 : decode (mC m_M_factor) 9 = .ok (.invokevirtual 274, 3) := by decide +kernel
theorem d_M_factor_12 : decode (mC m_M_factor) 12 = .ok (.ifCond .eq (16), 3) := by decide +kernel
theorem d_M_factor_15 : decode (mC m_M_factor) 15 = .ok (.aload_n 0, 1) := by decide +kernel
theorem d_M_factor_16 : decode (mC m_M_factor) 16 = .ok (.getfield 7, 3) := by decide +kernel
theorem d_M_factor_19 : decode (mC m_M_factor) 19 = .ok (.iconst 3, 1) := by decide +kernel
theorem d_M_factor_20 : decode (mC m_M_factor) 20 = .ok (.iload_n 1, 1) := by decide +kernel
theorem d_M_factor_21 : decode (mC m_M_factor) 21 = .ok (.imul, 1) := by decide +kernel
theorem d_M_factor_22 : decode (mC m_M_factor) 22 = .ok (.iload_n 2, 1) := by decide +kernel
theorem d_M_factor_23 : decode (mC m_M_factor) 23 = .ok (.iadd, 1) := by decide +kernel
theorem d_M_factor_24 : decode (mC m_M_factor) 24 = .ok (.iaload, 1) := by decide +kernel
theorem d_M_factor_25 : decode (mC m_M_factor) 25 = .ok (.goto (4), 3) := by decide +kernel
theorem d_M_factor_28 : decode (mC m_M_factor) 28 = .ok (.iconst 0, 1) := by decide +kernel
theorem d_M_factor_29 : decode (mC m_M_factor) 29 = .ok (.ireturn, 1) := by decide +kernel
theorem d_K_mostFirst_0 : decode (mC m_K_mostFirst) 0 = .ok (.iload_n 0, 1) := by decide +kernel
theorem d_K_mostFirst_1 : decode (mC m_K_mostFirst) 1 = .ok (.tableswitch (43) (0) (4) #[35, 43, 37, 35, 40], 35) := by decide +kernel
theorem d_K_mostFirst_36 : decode (mC m_K_mostFirst) 36 = .ok (.iconst 2, 1) := by decide +kernel
theorem d_K_mostFirst_37 : decode (mC m_K_mostFirst) 37 = .ok (.ireturn, 1) := by decide +kernel
theorem d_K_mostFirst_38 : decode (mC m_K_mostFirst) 38 = .ok (.bipush (20), 2) := by decide +kernel
theorem d_K_mostFirst_40 : decode (mC m_K_mostFirst) 40 = .ok (.ireturn, 1) := by decide +kernel
theorem d_K_mostFirst_41 : decode (mC m_K_mostFirst) 41 = .ok (.bipush (6), 2) := by decide +kernel
theorem d_K_mostFirst_43 : decode (mC m_K_mostFirst) 43 = .ok (.ireturn, 1) := by decide +kernel
theorem d_K_mostFirst_44 : decode (mC m_K_mostFirst) 44 = .ok (.iconst 0, 1) := by decide +kernel
theorem d_K_mostFirst_45 : decode (mC m_K_mostFirst) 45 = .ok (.ireturn, 1) := by decide +kernel
theorem d_K_isNext_0 : decode (mC m_K_isNext) 0 = .ok (.iload_n 0, 1) := by decide +kernel
theorem d_K_isNext_1 : decode (mC m_K_isNext) 1 = .ok (.iconst (-1), 1) := by decide +kernel
theorem d_K_isNext_2 : decode (mC m_K_isNext) 2 = .ok (.bipush (11), 2) := by decide +kernel
theorem d_K_isNext_4 : decode (mC m_K_isNext) 4 = .ok (.invokestatic 84, 3) := by decide +kernel
theorem d_K_isNext_7 : decode (mC m_K_isNext) 7 = .ok (.ireturn, 1) := by decide +kernel
theorem d_K_isStep_0 : decode (mC m_K_isStep) 0 = .ok (.iload_n 0, 1) := by decide +kernel
theorem d_K_isStep_1 : decode (mC m_K_isStep) 1 = .ok (.iconst 0, 1) := by decide +kernel
theorem d_K_isStep_2 : decode (mC m_K_isStep) 2 = .ok (.bipush (6), 2) := by decide +kernel
theorem d_K_isStep_4 : decode (mC m_K_isStep) 4 = .ok (.invokestatic 84, 3) := by decide +kernel
theorem d_K_isStep_7 : decode (mC m_K_isStep) 7 = .ok (.ifCond .eq (15), 3) := by decide +kernel
theorem d_K_isStep_10 : decode (mC m_K_isStep) 10 = .ok (.iload_n 1, 1) := by decide +kernel
theorem d_K_isStep_11 : decode (mC m_K_isStep) 11 = .ok (.iconst 0, 1) := by decide +kernel
theorem d_K_isStep_12 : decode (mC m_K_isStep) 12 = .ok (.iload_n 0, 1) := by decide +kernel
theorem d_K_isStep_13 : decode (mC m_K_isStep) 13 = .ok (.invokestatic 453, 3) := by decide +kernel
theorem d_K_isStep_16 : decode (mC m_K_isStep) 16 = .ok (.invokestatic 84, 3) := by decide +kernel
theorem d_K_isStep_19 : decode (mC m_K_isStep) 19 = .ok (.ifCond .ne (5), 3) := by decide +kernel
theorem d_K_isStep_22 : decode (mC m_K_isStep) 22 = .ok (.iconst 0, 1) := by decide +kernel
theorem d_K_isStep_23 : decode (mC m_K_isStep) 23 = .ok (.ireturn, 1) := by decide +kernel
theorem d_K_isStep_24 : decode (mC m_K_isStep) 24 = .ok (.iload_n 2, 1) := by decide +kernel
theorem d_K_isStep_25 : decode (mC m_K_isStep) 25 = .ok (.iload_n 0, 1) := by decide +kernel
theorem d_K_isStep_26 : decode (mC m_K_isStep) 26 = .ok (.ifCond .ne (7), 3) := by decide +kernel
theorem d_K_isStep_29 : decode (mC m_K_isStep) 29 = .ok (.iconst 1, 1) := by decide +kernel
theorem d_K_isStep_30 : decode (mC m_K_isStep) 30 = .ok (.goto (4), 3) := by decide +kernel
theorem d_K_isStep_33 : decode (mC m_K_isStep) 33 = .ok (.iconst 0, 1) := by decide +kernel
theorem d_K_isStep_34 : decode (mC m_K_isStep) 34 = .ok (.iload_n 0, 1) := by decide +kernel
theorem d_K_isStep_35 : decode (mC m_K_isStep) 35 = .ok (.ifCond .ne (7), 3) := by decide +kernel
theorem d_K_isStep_38 : decode (mC m_K_isStep) 38 = .ok (.iconst 3, 1) := by decide +kernel
theorem d_K_isStep_39 : decode (mC m_K_isStep) 39 = .ok (.goto (4), 3) := by decide +kernel
theorem d_K_isStep_42 : decode (mC m_K_isStep) 42 = .ok (.iconst 0, 1) := by decide +kernel
theorem d_K_isStep_43 : decode (mC m_K_isStep) 43 = .ok (.invokestatic 84, 3) := by decide +kernel
theorem d_K_isStep_46 : decode (mC m_K_isStep) 46 = .ok (.ifCond .ne (5), 3) := by decide +kernel
theorem d_K_isStep_49 : decode (mC m_K_isStep) 49 = .ok (.iconst 0, 1) := by decide +kernel
theorem d_K_isStep_50 : decode (mC m_K_isStep) 50 = .ok (.ireturn, 1) := by decide +kernel
theorem d_K_isStep_51 : decode (mC m_K_isStep) 51 = .ok (.iload_n 0, 1) := by decide +kernel
theorem d_K_isStep_52 : decode (mC m_K_isStep) 52 = .ok (.iconst 5, 1) := by decide +kernel
theorem d_K_isStep_53 : decode (mC m_K_isStep) 53 = .ok (.if_icmp .ge (18), 3) := by decide +kernel
theorem d_K_isStep_56 : decode (mC m_K_isStep) 56 = .ok (.iload_n 3, 1) := by decide +kernel
theorem d_K_isStep_57 : decode (mC m_K_isStep) 57 = .ok (.invokestatic 456, 3) := by decide +kernel
theorem d_K_isStep_60 : decode (mC m_K_isStep) 60 = .ok (.ifCond .eq (15), 3) := by decide +kernel
theorem d_K_isStep_63 : decode (mC m_K_isStep) 63 = .ok (.iload 4, 2) := by decide +kernel
theorem d_K_isStep_65 : decode (mC m_K_isStep) 65 = .ok (.invokestatic 456, 3) := by decide +kernel
theorem d_K_isStep_68 : decode (mC m_K_isStep) 68 = .ok (.ifCond .eq (7), 3) := by decide +kernel
theorem d_K_isStep_71 : decode (mC m_K_isStep) 71 = .ok (.iconst 1, 1) := by decide +kernel
theorem d_K_isStep_72 : decode (mC m_K_isStep) 72 = .ok (.goto (4), 3) := by decide +kernel
theorem d_K_isStep_75 : decode (mC m_K_isStep) 75 = .ok (.iconst 0, 1) := by decide +kernel
theorem d_K_isStep_76 : decode (mC m_K_isStep) 76 = .ok (.ireturn, 1) := by decide +kernel
theorem d_Flow_add_0 : decode (mC m_Flow_add) 0 = .ok (.aload_n 0, 1) := by decide +kernel
theorem d_Flow_add_1 : decode (mC m_Flow_add) 1 = .ok (.getfield 27, 3) := by decide +kernel
theorem d_Flow_add_4 : decode (mC m_Flow_add) 4 = .ok (.ifCond .lt (12), 3) := by decide +kernel
theorem d_Flow_add_7 : decode (mC m_Flow_add) 7 = .ok (.aload_n 0, 1) := by decide +kernel
theorem d_Flow_add_8 : decode (mC m_Flow_add) 8 = .ok (.getfield 27, 3) := by decide +kernel
theorem d_Flow_add_11 : decode (mC m_Flow_add) 11 = .ok (.bipush (12), 2) := by decide +kernel
theorem d_Flow_add_13 : decode (mC m_Flow_add) 13 = .ok (.if_icmp .lt (5), 3) := by decide +kernel
theorem d_Flow_add_16 : decode (mC m_Flow_add) 16 = .ok (.iconst (-1), 1) := by decide +kernel
theorem d_Flow_add_17 : decode (mC m_Flow_add) 17 = .ok (.ireturn, 1) := by decide +kernel
theorem d_Flow_add_18 : decode (mC m_Flow_add) 18 = .ok (.aload_n 0, 1) := by decide +kernel
theorem d_Flow_add_19 : decode (mC m_Flow_add) 19 = .ok (.getfield 11, 3) := by decide +kernel
theorem d_Flow_add_22 : decode (mC m_Flow_add) 22 = .ok (.aload_n 0, 1) := by decide +kernel
theorem d_Flow_add_23 : decode (mC m_Flow_add) 23 = .ok (.getfield 27, 3) := by decide +kernel
theorem d_Flow_add_26 : decode (mC m_Flow_add) 26 = .ok (.iload_n 1, 1) := by decide +kernel
theorem d_Flow_add_27 : decode (mC m_Flow_add) 27 = .ok (.iastore, 1) := by decide +kernel
theorem d_Flow_add_28 : decode (mC m_Flow_add) 28 = .ok (.aload_n 0, 1) := by decide +kernel
theorem d_Flow_add_29 : decode (mC m_Flow_add) 29 = .ok (.getfield 15, 3) := by decide +kernel
theorem d_Flow_add_32 : decode (mC m_Flow_add) 32 = .ok (.aload_n 0, 1) := by decide +kernel
theorem d_Flow_add_33 : decode (mC m_Flow_add) 33 = .ok (.getfield 27, 3) := by decide +kernel
theorem d_Flow_add_36 : decode (mC m_Flow_add) 36 = .ok (.iload_n 2, 1) := by decide +kernel
theorem d_Flow_add_37 : decode (mC m_Flow_add) 37 = .ok (.iastore, 1) := by decide +kernel
theorem d_Flow_add_38 : decode (mC m_Flow_add) 38 = .ok (.aload_n 0, 1) := by decide +kernel
theorem d_Flow_add_39 : decode (mC m_Flow_add) 39 = .ok (.getfield 18, 3) := by decide +kernel
theorem d_Flow_add_42 : decode (mC m_Flow_add) 42 = .ok (.aload_n 0, 1) := by decide +kernel
theorem d_Flow_add_43 : decode (mC m_Flow_add) 43 = .ok (.getfield 27, 3) := by decide +kernel
theorem d_Flow_add_46 : decode (mC m_Flow_add) 46 = .ok (.iload_n 3, 1) := by decide +kernel
theorem d_Flow_add_47 : decode (mC m_Flow_add) 47 = .ok (.iastore, 1) := by decide +kernel
theorem d_Flow_add_48 : decode (mC m_Flow_add) 48 = .ok (.aload_n 0, 1) := by decide +kernel
theorem d_Flow_add_49 : decode (mC m_Flow_add) 49 = .ok (.getfield 21, 3) := by decide +kernel
theorem d_Flow_add_52 : decode (mC m_Flow_add) 52 = .ok (.aload_n 0, 1) := by decide +kernel
theorem d_Flow_add_53 : decode (mC m_Flow_add) 53 = .ok (.getfield 27, 3) := by decide +kernel
theorem d_Flow_add_56 : decode (mC m_Flow_add) 56 = .ok (.iload 4, 2) := by decide +kernel
theorem d_Flow_add_58 : decode (mC m_Flow_add) 58 = .ok (.iastore, 1) := by decide +kernel
theorem d_Flow_add_59 : decode (mC m_Flow_add) 59 = .ok (.aload_n 0, 1) := by decide +kernel
theorem d_Flow_add_60 : decode (mC m_Flow_add) 60 = .ok (.getfield 24, 3) := by decide +kernel
theorem d_Flow_add_63 : decode (mC m_Flow_add) 63 = .ok (.aload_n 0, 1) := by decide +kernel
theorem d_Flow_add_64 : decode (mC m_Flow_add) 64 = .ok (.getfield 27, 3) := by decide +kernel
theorem d_Flow_add_67 : decode (mC m_Flow_add) 67 = .ok (.iload 5, 2) := by decide +kernel
theorem d_Flow_add_69 : decode (mC m_Flow_add) 69 = .ok (.iastore, 1) := by decide +kernel
theorem d_Flow_add_70 : decode (mC m_Flow_add) 70 = .ok (.aload_n 0, 1) := by decide +kernel
theorem d_Flow_add_71 : decode (mC m_Flow_add) 71 = .ok (.dup, 1) := by decide +kernel
theorem d_Flow_add_72 : decode (mC m_Flow_add) 72 = .ok (.getfield 27, 3) := by decide +kernel
theorem d_Flow_add_75 : decode (mC m_Flow_add) 75 = .ok (.iconst 1, 1) := by decide +kernel
theorem d_Flow_add_76 : decode (mC m_Flow_add) 76 = .ok (.iadd, 1) := by decide +kernel
theorem d_Flow_add_77 : decode (mC m_Flow_add) 77 = .ok (.putfield 27, 3) := by decide +kernel
theorem d_Flow_add_80 : decode (mC m_Flow_add) 80 = .ok (.aload_n 0, 1) := by decide +kernel
theorem d_Flow_add_81 : decode (mC m_Flow_add) 81 = .ok (.getfield 27, 3) := by decide +kernel
theorem d_Flow_add_84 : decode (mC m_Flow_add) 84 = .ok (.iconst 1, 1) := by decide +kernel
theorem d_Flow_add_85 : decode (mC m_Flow_add) 85 = .ok (.isub, 1) := by decide +kernel
theorem d_Flow_add_86 : decode (mC m_Flow_add) 86 = .ok (.ireturn, 1) := by decide +kernel
theorem d_K_step_0 : decode (mC m_K_step) 0 = .ok (.iload_n 1, 1) := by decide +kernel
theorem d_K_step_1 : decode (mC m_K_step) 1 = .ok (.iload_n 2, 1) := by decide +kernel
theorem d_K_step_2 : decode (mC m_K_step) 2 = .ok (.iload_n 3, 1) := by decide +kernel
theorem d_K_step_3 : decode (mC m_K_step) 3 = .ok (.iload 4, 2) := by decide +kernel
theorem d_K_step_5 : decode (mC m_K_step) 5 = .ok (.iload 5, 2) := by decide +kernel
theorem d_K_step_7 : decode (mC m_K_step) 7 = .ok (.invokestatic 123, 3) := by decide +kernel
theorem d_K_step_10 : decode (mC m_K_step) 10 = .ok (.invokestatic 88, 3) := by decide +kernel
theorem d_K_step_13 : decode (mC m_K_step) 13 = .ok (.aload_n 0, 1) := by decide +kernel
theorem d_K_step_14 : decode (mC m_K_step) 14 = .ok (.getfield 32, 3) := by decide +kernel
theorem d_K_step_17 : decode (mC m_K_step) 17 = .ok (.getfield 127, 3) := by decide +kernel
theorem d_K_step_20 : decode (mC m_K_step) 20 = .ok (.bipush (12), 2) := by decide +kernel
theorem d_K_step_22 : decode (mC m_K_step) 22 = .ok (.if_icmp .ge (7), 3) := by decide +kernel
theorem d_K_step_25 : decode (mC m_K_step) 25 = .ok (.iconst 1, 1) := by decide +kernel
theorem d_K_step_26 : decode (mC m_K_step) 26 = .ok (.goto (4), 3) := by decide +kernel
theorem d_K_step_29 : decode (mC m_K_step) 29 = .ok (.iconst 0, 1) := by decide +kernel
theorem d_K_step_30 : decode (mC m_K_step) 30 = .ok (.invokestatic 96, 3) := by decide +kernel
theorem d_K_step_33 : decode (mC m_K_step) 33 = .ok (.aload_n 0, 1) := by decide +kernel
theorem d_K_step_34 : decode (mC m_K_step) 34 = .ok (.getfield 32, 3) := by decide +kernel
theorem d_K_step_37 : decode (mC m_K_step) 37 = .ok (.iload_n 1, 1) := by decide +kernel
theorem d_K_step_38 : decode (mC m_K_step) 38 = .ok (.iload_n 2, 1) := by decide +kernel
theorem d_K_step_39 : decode (mC m_K_step) 39 = .ok (.iload_n 3, 1) := by decide +kernel
theorem d_K_step_40 : decode (mC m_K_step) 40 = .ok (.iload 4, 2) := by decide +kernel
theorem d_K_step_42 : decode (mC m_K_step) 42 = .ok (.iload 5, 2) := by decide +kernel
theorem d_K_step_44 : decode (mC m_K_step) 44 = .ok (.invokevirtual 130, 3) := by decide +kernel
theorem d_K_step_47 : decode (mC m_K_step) 47 = .ok (.ireturn, 1) := by decide +kernel
theorem d_W_step_0 : decode (mC m_W_step) 0 = .ok (.aload 6, 2) := by decide +kernel
theorem d_W_step_2 : decode (mC m_W_step) 2 = .ok (.iconst 0, 1) := by decide +kernel
theorem d_W_step_3 : decode (mC m_W_step) 3 = .ok (.aload_n 0, 1) := by decide +kernel
theorem d_W_step_4 : decode (mC m_W_step) 4 = .ok (.iload_n 1, 1) := by decide +kernel
theorem d_W_step_5 : decode (mC m_W_step) 5 = .ok (.iload_n 2, 1) := by decide +kernel
theorem d_W_step_6 : decode (mC m_W_step) 6 = .ok (.iload_n 3, 1) := by decide +kernel
theorem d_W_step_7 : decode (mC m_W_step) 7 = .ok (.iload 4, 2) := by decide +kernel
theorem d_W_step_9 : decode (mC m_W_step) 9 = .ok (.iload 5, 2) := by decide +kernel
theorem d_W_step_11 : decode (mC m_W_step) 11 = .ok (.invokevirtual 26, 3) := by decide +kernel
theorem d_W_step_14 : decode (mC m_W_step) 14 = .ok (.i2l, 1) := by decide +kernel
theorem d_W_step_15 : decode (mC m_W_step) 15 = .ok (.lastore, 1) := by decide +kernel
theorem d_W_step_16 : decode (mC m_W_step) 16 = .ok (.goto (11), 3) := by decide +kernel
theorem d_W_step_19 : decode (mC m_W_step) 19 = .ok (.astore 7, 2) := by decide +kernel
theorem d_W_step_21 : decode (mC m_W_step) 21 = .ok (.iconst 1, 1) := by decide +kernel
theorem d_W_step_22 : decode (mC m_W_step) 22 = .ok (.ireturn, 1) := by decide +kernel
theorem d_W_step_23 : decode (mC m_W_step) 23 = .ok (.astore 7, 2) := by decide +kernel
theorem d_W_step_25 : decode (mC m_W_step) 25 = .ok (.iconst 2, 1) := by decide +kernel
theorem d_W_step_26 : decode (mC m_W_step) 26 = .ok (.ireturn, 1) := by decide +kernel
theorem d_W_step_27 : decode (mC m_W_step) 27 = .ok (.iconst 0, 1) := by decide +kernel
theorem d_W_step_28 : decode (mC m_W_step) 28 = .ok (.ireturn, 1) := by decide +kernel
theorem d_M_isNext_0 : decode (mC m_M_isNext) 0 = .ok (.iload_n 0, 1) := by decide +kernel
theorem d_M_isNext_1 : decode (mC m_M_isNext) 1 = .ok (.iconst (-1), 1) := by decide +kernel
theorem d_M_isNext_2 : decode (mC m_M_isNext) 2 = .ok (.bipush (11), 2) := by decide +kernel
theorem d_M_isNext_4 : decode (mC m_M_isNext) 4 = .ok (.invokestatic 228, 3) := by decide +kernel
theorem d_M_isNext_7 : decode (mC m_M_isNext) 7 = .ok (.ireturn, 1) := by decide +kernel
theorem d_M_step_0 : decode (mC m_M_step) 0 = .ok (.iload_n 1, 1) := by decide +kernel
theorem d_M_step_1 : decode (mC m_M_step) 1 = .ok (.ifCond .eq (8), 3) := by decide +kernel
theorem d_M_step_4 : decode (mC m_M_step) 4 = .ok (.iload_n 1, 1) := by decide +kernel
theorem d_M_step_5 : decode (mC m_M_step) 5 = .ok (.iconst 3, 1) := by decide +kernel
theorem d_M_step_6 : decode (mC m_M_step) 6 = .ok (.if_icmp .ne (7), 3) := by decide +kernel
theorem d_M_step_9 : decode (mC m_M_step) 9 = .ok (.iconst 2, 1) := by decide +kernel
theorem d_M_step_10 : decode (mC m_M_step) 10 = .ok (.goto (24), 3) := by decide +kernel
theorem d_M_step_13 : decode (mC m_M_step) 13 = .ok (.iload_n 1, 1) := by decide +kernel
theorem d_M_step_14 : decode (mC m_M_step) 14 = .ok (.iconst 2, 1) := by decide +kernel
theorem d_M_step_15 : decode (mC m_M_step) 15 = .ok (.if_icmp .ne (8), 3) := by decide +kernel
theorem d_M_step_18 : decode (mC m_M_step) 18 = .ok (.bipush (20), 2) := by decide +kernel
theorem d_M_step_20 : decode (mC m_M_step) 20 = .ok (.goto (14), 3) := by decide +kernel
theorem d_M_step_23 : decode (mC m_M_step) 23 = .ok (.iload_n 1, 1) := by decide +kernel
theorem d_M_step_24 : decode (mC m_M_step) 24 = .ok (.iconst 4, 1) := by decide +kernel
theorem d_M_step_25 : decode (mC m_M_step) 25 = .ok (.if_icmp .ne (8), 3) := by decide +kernel
theorem d_M_step_28 : decode (mC m_M_step) 28 = .ok (.bipush (6), 2) := by decide +kernel
theorem d_M_step_30 : decode (mC m_M_step) 30 = .ok (.goto (4), 3) := by decide +kernel
theorem d_M_step_33 : decode (mC m_M_step) 33 = .ok (.iconst 0, 1) := by decide +kernel
theorem d_M_step_34 : decode (mC m_M_step) 34 = .ok (.istore 6, 2) := by decide +kernel
theorem d_M_step_36 : decode (mC m_M_step) 36 = .ok (.iload_n 1, 1) := by decide +kernel
theorem d_M_step_37 : decode (mC m_M_step) 37 = .ok (.iconst 0, 1) := by decide +kernel
theorem d_M_step_38 : decode (mC m_M_step) 38 = .ok (.bipush (6), 2) := by decide +kernel
theorem d_M_step_40 : decode (mC m_M_step) 40 = .ok (.invokestatic 228, 3) := by decide +kernel
theorem d_M_step_43 : decode (mC m_M_step) 43 = .ok (.ifCond .eq (37), 3) := by decide +kernel
theorem d_M_step_46 : decode (mC m_M_step) 46 = .ok (.iload_n 2, 1) := by decide +kernel
theorem d_M_step_47 : decode (mC m_M_step) 47 = .ok (.iconst 0, 1) := by decide +kernel
theorem d_M_step_48 : decode (mC m_M_step) 48 = .ok (.iload 6, 2) := by decide +kernel
theorem d_M_step_50 : decode (mC m_M_step) 50 = .ok (.invokestatic 228, 3) := by decide +kernel
theorem d_M_step_53 : decode (mC m_M_step) 53 = .ok (.ifCond .eq (27), 3) := by decide +kernel
theorem d_M_step_56 : decode (mC m_M_step) 56 = .ok (.iload_n 1, 1) := by decide +kernel
theorem d_M_step_57 : decode (mC m_M_step) 57 = .ok (.ifCond .ne (15), 3) := by decide +kernel
theorem d_M_step_60 : decode (mC m_M_step) 60 = .ok (.iload_n 3, 1) := by decide +kernel
theorem d_M_step_61 : decode (mC m_M_step) 61 = .ok (.iconst 1, 1) := by decide +kernel
theorem d_M_step_62 : decode (mC m_M_step) 62 = .ok (.iconst 3, 1) := by decide +kernel
theorem d_M_step_63 : decode (mC m_M_step) 63 = .ok (.invokestatic 228, 3) := by decide +kernel
theorem d_M_step_66 : decode (mC m_M_step) 66 = .ok (.ifCond .eq (14), 3) := by decide +kernel
theorem d_M_step_69 : decode (mC m_M_step) 69 = .ok (.goto (7), 3) := by decide +kernel
theorem d_M_step_72 : decode (mC m_M_step) 72 = .ok (.iload_n 3, 1) := by decide +kernel
theorem d_M_step_73 : decode (mC m_M_step) 73 = .ok (.ifCond .ne (7), 3) := by decide +kernel
theorem d_M_step_76 : decode (mC m_M_step) 76 = .ok (.iconst 1, 1) := by decide +kernel
theorem d_M_step_77 : decode (mC m_M_step) 77 = .ok (.goto (4), 3) := by decide +kernel
theorem d_M_step_80 : decode (mC m_M_step) 80 = .ok (.iconst 0, 1) := by decide +kernel
theorem d_M_step_81 : decode (mC m_M_step) 81 = .ok (.istore 7, 2) := by decide +kernel
theorem d_M_step_83 : decode (mC m_M_step) 83 = .ok (.iload 7, 2) := by decide +kernel
theorem d_M_step_85 : decode (mC m_M_step) 85 = .ok (.ifCond .eq (28), 3) := by decide +kernel
theorem d_M_step_88 : decode (mC m_M_step) 88 = .ok (.iload_n 1, 1) := by decide +kernel
theorem d_M_step_89 : decode (mC m_M_step) 89 = .ok (.iconst 5, 1) := by decide +kernel
theorem d_M_step_90 : decode (mC m_M_step) 90 = .ok (.if_icmp .ge (19), 3) := by decide +kernel
theorem d_M_step_93 : decode (mC m_M_step) 93 = .ok (.iload 4, 2) := by decide +kernel
theorem d_M_step_95 : decode (mC m_M_step) 95 = .ok (.invokestatic 297, 3) := by decide +kernel
theorem d_M_step_98 : decode (mC m_M_step) 98 = .ok (.ifCond .eq (15), 3) := by decide +kernel
theorem d_M_step_101 : decode (mC m_M_step) 101 = .ok (.iload 5, 2) := by decide +kernel
theorem d_M_step_103 : decode (mC m_M_step) 103 = .ok (.invokestatic 297, 3) := by decide +kernel
theorem d_M_step_106 : decode (mC m_M_step) 106 = .ok (.ifCond .eq (7), 3) := by decide +kernel
theorem d_M_step_109 : decode (mC m_M_step) 109 = .ok (.iconst 1, 1) := by decide +kernel
theorem d_M_step_110 : decode (mC m_M_step) 110 = .ok (.goto (4), 3) := by decide +kernel
theorem d_M_step_113 : decode (mC m_M_step) 113 = .ok (.iconst 0, 1) := by decide +kernel
theorem d_M_step_114 : decode (mC m_M_step) 114 = .ok (.istore 7, 2) := by decide +kernel
theorem d_M_step_116 : decode (mC m_M_step) 116 = .ok (.aload_n 0, 1) := by decide +kernel
theorem d_M_step_117 : decode (mC m_M_step) 117 = .ok (.iload 7, 2) := by decide +kernel
theorem d_M_step_119 : decode (mC m_M_step) 119 = .ok (.aload_n 0, 1) := by decide +kernel
theorem d_M_step_120 : decode (mC m_M_step) 120 = .ok (.getfield 35, 3) := by decide +kernel
theorem d_M_step_123 : decode (mC m_M_step) 123 = .ok (.bipush (8), 2) := by decide +kernel
theorem d_M_step_125 : decode (mC m_M_step) 125 = .ok (.iaload, 1) := by decide +kernel
theorem d_M_step_126 : decode (mC m_M_step) 126 = .ok (.bipush (12), 2) := by decide +kernel
theorem d_M_step_128 : decode (mC m_M_step) 128 = .ok (.if_icmp .ge (7), 3) := by decide +kernel
theorem d_M_step_131 : decode (mC m_M_step) 131 = .ok (.iconst 1, 1) := by decide +kernel
theorem d_M_step_132 : decode (mC m_M_step) 132 = .ok (.goto (4), 3) := by decide +kernel
theorem d_M_step_135 : decode (mC m_M_step) 135 = .ok (.iconst 0, 1) := by decide +kernel
theorem d_M_step_136 : decode (mC m_M_step) 136 = .ok (.invokevirtual 274, 3) := by decide +kernel
theorem d_M_step_139 : decode (mC m_M_step) 139 = .ok (.ifCond .ne (5), 3) := by decide +kernel
theorem d_M_step_142 : decode (mC m_M_step) 142 = .ok (.iconst 0, 1) := by decide +kernel
theorem d_M_step_143 : decode (mC m_M_step) 143 = .ok (.ireturn, 1) := by decide +kernel
theorem d_M_step_144 : decode (mC m_M_step) 144 = .ok (.bipush (96), 2) := by decide +kernel
theorem d_M_step_146 : decode (mC m_M_step) 146 = .ok (.aload_n 0, 1) := by decide +kernel
theorem d_M_step_147 : decode (mC m_M_step) 147 = .ok (.getfield 35, 3) := by decide +kernel
theorem d_M_step_150 : decode (mC m_M_step) 150 = .ok (.bipush (8), 2) := by decide +kernel
theorem d_M_step_152 : decode (mC m_M_step) 152 = .ok (.iaload, 1) := by decide +kernel
theorem d_M_step_153 : decode (mC m_M_step) 153 = .ok (.iadd, 1) := by decide +kernel
theorem d_M_step_154 : decode (mC m_M_step) 154 = .ok (.istore 8, 2) := by decide +kernel
theorem d_M_step_156 : decode (mC m_M_step) 156 = .ok (.aload_n 0, 1) := by decide +kernel
theorem d_M_step_157 : decode (mC m_M_step) 157 = .ok (.getfield 38, 3) := by decide +kernel
theorem d_M_step_160 : decode (mC m_M_step) 160 = .ok (.iload 8, 2) := by decide +kernel
theorem d_M_step_162 : decode (mC m_M_step) 162 = .ok (.iload_n 1, 1) := by decide +kernel
theorem d_M_step_163 : decode (mC m_M_step) 163 = .ok (.iastore, 1) := by decide +kernel
theorem d_M_step_164 : decode (mC m_M_step) 164 = .ok (.aload_n 0, 1) := by decide +kernel
theorem d_M_step_165 : decode (mC m_M_step) 165 = .ok (.getfield 41, 3) := by decide +kernel
theorem d_M_step_168 : decode (mC m_M_step) 168 = .ok (.iload 8, 2) := by decide +kernel
theorem d_M_step_170 : decode (mC m_M_step) 170 = .ok (.iload_n 2, 1) := by decide +kernel
theorem d_M_step_171 : decode (mC m_M_step) 171 = .ok (.iastore, 1) := by decide +kernel
theorem d_M_step_172 : decode (mC m_M_step) 172 = .ok (.aload_n 0, 1) := by decide +kernel
theorem d_M_step_173 : decode (mC m_M_step) 173 = .ok (.getfield 44, 3) := by decide +kernel
theorem d_M_step_176 : decode (mC m_M_step) 176 = .ok (.iload 8, 2) := by decide +kernel
theorem d_M_step_178 : decode (mC m_M_step) 178 = .ok (.iload_n 3, 1) := by decide +kernel
theorem d_M_step_179 : decode (mC m_M_step) 179 = .ok (.iastore, 1) := by decide +kernel
theorem d_M_step_180 : decode (mC m_M_step) 180 = .ok (.aload_n 0, 1) := by decide +kernel
theorem d_M_step_181 : decode (mC m_M_step) 181 = .ok (.getfield 47, 3) := by decide +kernel
theorem d_M_step_184 : decode (mC m_M_step) 184 = .ok (.iload 8, 2) := by decide +kernel
theorem d_M_step_186 : decode (mC m_M_step) 186 = .ok (.iload 4, 2) := by decide +kernel
theorem d_M_step_188 : decode (mC m_M_step) 188 = .ok (.iastore, 1) := by decide +kernel
theorem d_M_step_189 : decode (mC m_M_step) 189 = .ok (.aload_n 0, 1) := by decide +kernel
theorem d_M_step_190 : decode (mC m_M_step) 190 = .ok (.getfield 50, 3) := by decide +kernel
theorem d_M_step_193 : decode (mC m_M_step) 193 = .ok (.iload 8, 2) := by decide +kernel
theorem d_M_step_195 : decode (mC m_M_step) 195 = .ok (.iload 5, 2) := by decide +kernel
theorem d_M_step_197 : decode (mC m_M_step) 197 = .ok (.iastore, 1) := by decide +kernel
theorem d_M_step_198 : decode (mC m_M_step) 198 = .ok (.aload_n 0, 1) := by decide +kernel
theorem d_M_step_199 : decode (mC m_M_step) 199 = .ok (.getfield 35, 3) := by decide +kernel
theorem d_M_step_202 : decode (mC m_M_step) 202 = .ok (.bipush (8), 2) := by decide +kernel
theorem d_M_step_204 : decode (mC m_M_step) 204 = .ok (.dup2, 1) := by decide +kernel
theorem d_M_step_205 : decode (mC m_M_step) 205 = .ok (.iaload, 1) := by decide +kernel
theorem d_M_step_206 : decode (mC m_M_step) 206 = .ok (.iconst 1, 1) := by decide +kernel
theorem d_M_step_207 : decode (mC m_M_step) 207 = .ok (.iadd, 1) := by decide +kernel
theorem d_M_step_208 : decode (mC m_M_step) 208 = .ok (.iastore, 1) := by decide +kernel
theorem d_M_step_209 : decode (mC m_M_step) 209 = .ok (.aload_n 0, 1) := by decide +kernel
theorem d_M_step_210 : decode (mC m_M_step) 210 = .ok (.getfield 35, 3) := by decide +kernel
theorem d_M_step_213 : decode (mC m_M_step) 213 = .ok (.bipush (8), 2) := by decide +kernel
theorem d_M_step_215 : decode (mC m_M_step) 215 = .ok (.iaload, 1) := by decide +kernel
theorem d_M_step_216 : decode (mC m_M_step) 216 = .ok (.iconst 1, 1) := by decide +kernel
theorem d_M_step_217 : decode (mC m_M_step) 217 = .ok (.isub, 1) := by decide +kernel
theorem d_M_step_218 : decode (mC m_M_step) 218 = .ok (.ireturn, 1) := by decide +kernel
theorem d_K_clear_0 : decode (mC m_K_clear) 0 = .ok (.aload_n 0, 1) := by decide +kernel
theorem d_K_clear_1 : decode (mC m_K_clear) 1 = .ok (.getfield 32, 3) := by decide +kernel
theorem d_K_clear_4 : decode (mC m_K_clear) 4 = .ok (.getfield 127, 3) := by decide +kernel
theorem d_K_clear_7 : decode (mC m_K_clear) 7 = .ok (.istore_n 1, 1) := by decide +kernel
theorem d_K_clear_8 : decode (mC m_K_clear) 8 = .ok (.aload_n 0, 1) := by decide +kernel
theorem d_K_clear_9 : decode (mC m_K_clear) 9 = .ok (.getfield 32, 3) := by decide +kernel
theorem d_K_clear_12 : decode (mC m_K_clear) 12 = .ok (.iconst 0, 1) := by decide +kernel
theorem d_K_clear_13 : decode (mC m_K_clear) 13 = .ok (.putfield 127, 3) := by decide +kernel
theorem d_K_clear_16 : decode (mC m_K_clear) 16 = .ok (.iload_n 1, 1) := by decide +kernel
theorem d_K_clear_17 : decode (mC m_K_clear) 17 = .ok (.ireturn, 1) := by decide +kernel
theorem d_M_clear_0 : decode (mC m_M_clear) 0 = .ok (.aload_n 0, 1) := by decide +kernel
theorem d_M_clear_1 : decode (mC m_M_clear) 1 = .ok (.iconst 0, 1) := by decide +kernel
theorem d_M_clear_2 : decode (mC m_M_clear) 2 = .ok (.putfield 225, 3) := by decide +kernel
theorem d_M_clear_5 : decode (mC m_M_clear) 5 = .ok (.aload_n 0, 1) := by decide +kernel
theorem d_M_clear_6 : decode (mC m_M_clear) 6 = .ok (.getfield 35, 3) := by decide +kernel
theorem d_M_clear_9 : decode (mC m_M_clear) 9 = .ok (.bipush (8), 2) := by decide +kernel
theorem d_M_clear_11 : decode (mC m_M_clear) 11 = .ok (.iaload, 1) := by decide +kernel
theorem d_M_clear_12 : decode (mC m_M_clear) 12 = .ok (.istore_n 1, 1) := by decide +kernel
theorem d_M_clear_13 : decode (mC m_M_clear) 13 = .ok (.aload_n 0, 1) := by decide +kernel
theorem d_M_clear_14 : decode (mC m_M_clear) 14 = .ok (.getfield 35, 3) := by decide +kernel
theorem d_M_clear_17 : decode (mC m_M_clear) 17 = .ok (.bipush (8), 2) := by decide +kernel
theorem d_M_clear_19 : decode (mC m_M_clear) 19 = .ok (.iconst 0, 1) := by decide +kernel
theorem d_M_clear_20 : decode (mC m_M_clear) 20 = .ok (.iastore, 1) := by decide +kernel
theorem d_M_clear_21 : decode (mC m_M_clear) 21 = .ok (.iload_n 1, 1) := by decide +kernel
theorem d_M_clear_22 : decode (mC m_M_clear) 22 = .ok (.ireturn, 1) := by decide +kernel
theorem d_Flow_isThere_0 : decode (mC m_Flow_isThere) 0 = .ok (.iload_n 1, 1) := by decide +kernel
theorem d_Flow_isThere_1 : decode (mC m_Flow_isThere) 1 = .ok (.ifCond .lt (21), 3) := by decide +kernel
theorem d_Flow_isThere_4 : decode (mC m_Flow_isThere) 4 = .ok (.iload_n 1, 1) := by decide +kernel
theorem d_Flow_isThere_5 : decode (mC m_Flow_isThere) 5 = .ok (.aload_n 0, 1) := by decide +kernel
theorem d_Flow_isThere_6 : decode (mC m_Flow_isThere) 6 = .ok (.getfield 27, 3) := by decide +kernel
theorem d_Flow_isThere_9 : decode (mC m_Flow_isThere) 9 = .ok (.if_icmp .ge (13), 3) := by decide +kernel
theorem d_Flow_isThere_12 : decode (mC m_Flow_isThere) 12 = .ok (.iload_n 1, 1) := by decide +kernel
theorem d_Flow_isThere_13 : decode (mC m_Flow_isThere) 13 = .ok (.bipush (12), 2) := by decide +kernel
theorem d_Flow_isThere_15 : decode (mC m_Flow_isThere) 15 = .ok (.if_icmp .ge (7), 3) := by decide +kernel
theorem d_Flow_isThere_18 : decode (mC m_Flow_isThere) 18 = .ok (.iconst 1, 1) := by decide +kernel
theorem d_Flow_isThere_19 : decode (mC m_Flow_isThere) 19 = .ok (.goto (4), 3) := by decide +kernel
theorem d_Flow_isThere_22 : decode (mC m_Flow_isThere) 22 = .ok (.iconst 0, 1) := by decide +kernel
theorem d_Flow_isThere_23 : decode (mC m_Flow_isThere) 23 = .ok (.ireturn, 1) := by decide +kernel
theorem d_Flow_kindOf_0 : decode (mC m_Flow_kindOf) 0 = .ok (.aload_n 0, 1) := by decide +kernel
theorem d_Flow_kindOf_1 : decode (mC m_Flow_kindOf) 1 = .ok (.iload_n 1, 1) := by decide +kernel
theorem d_Flow_kindOf_2 : decode (mC m_Flow_kindOf) 2 = .ok (.invokevirtual 31, 3) := by decide +kernel
theorem d_Flow_kindOf_5 : decode (mC m_Flow_kindOf) 5 = .ok (.ifCond .eq (12), 3) := by decide +kernel
theorem d_Flow_kindOf_8 : decode (mC m_Flow_kindOf) 8 = .ok (.aload_n 0, 1) := by decide +kernel
theorem d_Flow_kindOf_9 : decode (mC m_Flow_kindOf) 9 = .ok (.getfield 11, 3) := by decide +kernel
theorem d_Flow_kindOf_12 : decode (mC m_Flow_kindOf) 12 = .ok (.iload_n 1, 1) := by decide +kernel
theorem d_Flow_kindOf_13 : decode (mC m_Flow_kindOf) 13 = .ok (.iaload, 1) := by decide +kernel
theorem d_Flow_kindOf_14 : decode (mC m_Flow_kindOf) 14 = .ok (.goto (5), 3) := by decide +kernel
theorem d_Flow_kindOf_17 : decode (mC m_Flow_kindOf) 17 = .ok (.bipush (6), 2) := by decide +kernel
theorem d_Flow_kindOf_19 : decode (mC m_Flow_kindOf) 19 = .ok (.ireturn, 1) := by decide +kernel
theorem d_Flow_nextOf_0 : decode (mC m_Flow_nextOf) 0 = .ok (.aload_n 0, 1) := by decide +kernel
theorem d_Flow_nextOf_1 : decode (mC m_Flow_nextOf) 1 = .ok (.iload_n 1, 1) := by decide +kernel
theorem d_Flow_nextOf_2 : decode (mC m_Flow_nextOf) 2 = .ok (.invokevirtual 31, 3) := by decide +kernel
theorem d_Flow_nextOf_5 : decode (mC m_Flow_nextOf) 5 = .ok (.ifCond .ne (5), 3) := by decide +kernel
theorem d_Flow_nextOf_8 : decode (mC m_Flow_nextOf) 8 = .ok (.iconst (-1), 1) := by decide +kernel
theorem d_Flow_nextOf_9 : decode (mC m_Flow_nextOf) 9 = .ok (.ireturn, 1) := by decide +kernel
theorem d_Flow_nextOf_10 : decode (mC m_Flow_nextOf) 10 = .ok (.iload_n 2, 1) := by decide +kernel
theorem d_Flow_nextOf_11 : decode (mC m_Flow_nextOf) 11 = .ok (.ifCond .eq (12), 3) := by decide +kernel
theorem d_Flow_nextOf_14 : decode (mC m_Flow_nextOf) 14 = .ok (.aload_n 0, 1) := by decide +kernel
theorem d_Flow_nextOf_15 : decode (mC m_Flow_nextOf) 15 = .ok (.getfield 21, 3) := by decide +kernel
theorem d_Flow_nextOf_18 : decode (mC m_Flow_nextOf) 18 = .ok (.iload_n 1, 1) := by decide +kernel
theorem d_Flow_nextOf_19 : decode (mC m_Flow_nextOf) 19 = .ok (.iaload, 1) := by decide +kernel
theorem d_Flow_nextOf_20 : decode (mC m_Flow_nextOf) 20 = .ok (.goto (9), 3) := by decide +kernel
theorem d_Flow_nextOf_23 : decode (mC m_Flow_nextOf) 23 = .ok (.aload_n 0, 1) := by decide +kernel
theorem d_Flow_nextOf_24 : decode (mC m_Flow_nextOf) 24 = .ok (.getfield 24, 3) := by decide +kernel
theorem d_Flow_nextOf_27 : decode (mC m_Flow_nextOf) 27 = .ok (.iload_n 1, 1) := by decide +kernel
theorem d_Flow_nextOf_28 : decode (mC m_Flow_nextOf) 28 = .ok (.iaload, 1) := by decide +kernel
theorem d_Flow_nextOf_29 : decode (mC m_Flow_nextOf) 29 = .ok (.ireturn, 1) := by decide +kernel
theorem d_Flow_isNoneOrThere_0 : decode (mC m_Flow_isNoneOrThere) 0 = .ok (.iload_n 1, 1) := by decide +kernel
theorem d_Flow_isNoneOrThere_1 : decode (mC m_Flow_isNoneOrThere) 1 = .ok (.iconst (-1), 1) := by decide +kernel
theorem d_Flow_isNoneOrThere_2 : decode (mC m_Flow_isNoneOrThere) 2 = .ok (.if_icmp .eq (11), 3) := by decide +kernel
theorem d_Flow_isNoneOrThere_5 : decode (mC m_Flow_isNoneOrThere) 5 = .ok (.aload_n 0, 1) := by decide +kernel
theorem d_Flow_isNoneOrThere_6 : decode (mC m_Flow_isNoneOrThere) 6 = .ok (.iload_n 1, 1) := by decide +kernel
theorem d_Flow_isNoneOrThere_7 : decode (mC m_Flow_isNoneOrThere) 7 = .ok (.invokevirtual 31, 3) := by decide +kernel
theorem d_Flow_isNoneOrThere_10 : decode (mC m_Flow_isNoneOrThere) 10 = .ok (.ifCond .eq (7), 3) := by decide +kernel
theorem d_Flow_isNoneOrThere_13 : decode (mC m_Flow_isNoneOrThere) 13 = .ok (.iconst 1, 1) := by decide +kernel
theorem d_Flow_isNoneOrThere_14 : decode (mC m_Flow_isNoneOrThere) 14 = .ok (.goto (4), 3) := by decide +kernel
theorem d_Flow_isNoneOrThere_17 : decode (mC m_Flow_isNoneOrThere) 17 = .ok (.iconst 0, 1) := by decide +kernel
theorem d_Flow_isNoneOrThere_18 : decode (mC m_Flow_isNoneOrThere) 18 = .ok (.ireturn, 1) := by decide +kernel
theorem d_Flow_hasAllNextSteps_0 : decode (mC m_Flow_hasAllNextSteps) 0 = .ok (.iconst 0, 1) := by decide +kernel
theorem d_Flow_hasAllNextSteps_1 : decode (mC m_Flow_hasAllNextSteps) 1 = .ok (.istore_n 1, 1) := by decide +kernel
theorem d_Flow_hasAllNextSteps_2 : decode (mC m_Flow_hasAllNextSteps) 2 = .ok (.iload_n 1, 1) := by decide +kernel
theorem d_Flow_hasAllNextSteps_3 : decode (mC m_Flow_hasAllNextSteps) 3 = .ok (.aload_n 0, 1) := by decide +kernel
theorem d_Flow_hasAllNextSteps_4 : decode (mC m_Flow_hasAllNextSteps) 4 = .ok (.getfield 27, 3) := by decide +kernel
theorem d_Flow_hasAllNextSteps_7 : decode (mC m_Flow_hasAllNextSteps) 7 = .ok (.if_icmp .ge (46), 3) := by decide +kernel
theorem d_Flow_hasAllNextSteps_10 : decode (mC m_Flow_hasAllNextSteps) 10 = .ok (.aload_n 0, 1) := by decide +kernel
theorem d_Flow_hasAllNextSteps_11 : decode (mC m_Flow_hasAllNextSteps) 11 = .ok (.iload_n 1, 1) := by decide +kernel
theorem d_Flow_hasAllNextSteps_12 : decode (mC m_Flow_hasAllNextSteps) 12 = .ok (.invokevirtual 35, 3) := by decide +kernel
theorem d_Flow_hasAllNextSteps_15 : decode (mC m_Flow_hasAllNextSteps) 15 = .ok (.iconst 5, 1) := by decide +kernel
theorem d_Flow_hasAllNextSteps_16 : decode (mC m_Flow_hasAllNextSteps) 16 = .ok (.if_icmp .ge (31), 3) := by decide +kernel
theorem d_Flow_hasAllNextSteps_19 : decode (mC m_Flow_hasAllNextSteps) 19 = .ok (.aload_n 0, 1) := by decide +kernel
theorem d_Flow_hasAllNextSteps_20 : decode (mC m_Flow_hasAllNextSteps) 20 = .ok (.aload_n 0, 1) := by decide +kernel
theorem d_Flow_hasAllNextSteps_21 : decode (mC m_Flow_hasAllNextSteps) 21 = .ok (.iload_n 1, 1) := by decide +kernel
theorem d_Flow_hasAllNextSteps_22 : decode (mC m_Flow_hasAllNextSteps) 22 = .ok (.iconst 1, 1) := by decide +kernel
theorem d_Flow_hasAllNextSteps_23 : decode (mC m_Flow_hasAllNextSteps) 23 = .ok (.invokevirtual 43, 3) := by decide +kernel
theorem d_Flow_hasAllNextSteps_26 : decode (mC m_Flow_hasAllNextSteps) 26 = .ok (.invokevirtual 47, 3) := by decide +kernel
theorem d_Flow_hasAllNextSteps_29 : decode (mC m_Flow_hasAllNextSteps) 29 = .ok (.ifCond .eq (16), 3) := by decide +kernel
theorem d_Flow_hasAllNextSteps_32 : decode (mC m_Flow_hasAllNextSteps) 32 = .ok (.aload_n 0, 1) := by decide +kernel
theorem d_Flow_hasAllNextSteps_33 : decode (mC m_Flow_hasAllNextSteps) 33 = .ok (.aload_n 0, 1) := by decide +kernel
theorem d_Flow_hasAllNextSteps_34 : decode (mC m_Flow_hasAllNextSteps) 34 = .ok (.iload_n 1, 1) := by decide +kernel
theorem d_Flow_hasAllNextSteps_35 : decode (mC m_Flow_hasAllNextSteps) 35 = .ok (.iconst 0, 1) := by decide +kernel
theorem d_Flow_hasAllNextSteps_36 : decode (mC m_Flow_hasAllNextSteps) 36 = .ok (.invokevirtual 43, 3) := by decide +kernel
theorem d_Flow_hasAllNextSteps_39 : decode (mC m_Flow_hasAllNextSteps) 39 = .ok (.invokevirtual 47, 3) := by decide +kernel
theorem d_Flow_hasAllNextSteps_42 : decode (mC m_Flow_hasAllNextSteps) 42 = .ok (.ifCond .ne (5), 3) := by decide +kernel
theorem d_Flow_hasAllNextSteps_45 : decode (mC m_Flow_hasAllNextSteps) 45 = .ok (.iconst 0, 1) := by decide +kernel
theorem d_Flow_hasAllNextSteps_46 : decode (mC m_Flow_hasAllNextSteps) 46 = .ok (.ireturn, 1) := by decide +kernel
theorem d_Flow_hasAllNextSteps_47 : decode (mC m_Flow_hasAllNextSteps) 47 = .ok (.iinc 1 (1), 3) := by decide +kernel
theorem d_Flow_hasAllNextSteps_50 : decode (mC m_Flow_hasAllNextSteps) 50 = .ok (.goto (-48), 3) := by decide +kernel
theorem d_Flow_hasAllNextSteps_53 : decode (mC m_Flow_hasAllNextSteps) 53 = .ok (.iconst 1, 1) := by decide +kernel
theorem d_Flow_hasAllNextSteps_54 : decode (mC m_Flow_hasAllNextSteps) 54 = .ok (.ireturn, 1) := by decide +kernel
theorem d_Flow_isTest_0 : decode (mC m_Flow_isTest) 0 = .ok (.aload_n 0, 1) := by decide +kernel
theorem d_Flow_isTest_1 : decode (mC m_Flow_isTest) 1 = .ok (.iload_n 1, 1) := by decide +kernel
theorem d_Flow_isTest_2 : decode (mC m_Flow_isTest) 2 = .ok (.invokevirtual 35, 3) := by decide +kernel
theorem d_Flow_isTest_5 : decode (mC m_Flow_isTest) 5 = .ok (.iconst 1, 1) := by decide +kernel
theorem d_Flow_isTest_6 : decode (mC m_Flow_isTest) 6 = .ok (.iconst 4, 1) := by decide +kernel
theorem d_Flow_isTest_7 : decode (mC m_Flow_isTest) 7 = .ok (.invokestatic 39, 3) := by decide +kernel
theorem d_Flow_isTest_10 : decode (mC m_Flow_isTest) 10 = .ok (.ireturn, 1) := by decide +kernel
theorem d_Flow_leaves_0 : decode (mC m_Flow_leaves) 0 = .ok (.iload_n 0, 1) := by decide +kernel
theorem d_Flow_leaves_1 : decode (mC m_Flow_leaves) 1 = .ok (.iconst (-1), 1) := by decide +kernel
theorem d_Flow_leaves_2 : decode (mC m_Flow_leaves) 2 = .ok (.if_icmp .eq (11), 3) := by decide +kernel
theorem d_Flow_leaves_5 : decode (mC m_Flow_leaves) 5 = .ok (.iload_n 0, 1) := by decide +kernel
theorem d_Flow_leaves_6 : decode (mC m_Flow_leaves) 6 = .ok (.iload_n 1, 1) := by decide +kernel
theorem d_Flow_leaves_7 : decode (mC m_Flow_leaves) 7 = .ok (.invokestatic 57, 3) := by decide +kernel
theorem d_Flow_leaves_10 : decode (mC m_Flow_leaves) 10 = .ok (.ifCond .eq (7), 3) := by decide +kernel
theorem d_Flow_leaves_13 : decode (mC m_Flow_leaves) 13 = .ok (.iconst 1, 1) := by decide +kernel
theorem d_Flow_leaves_14 : decode (mC m_Flow_leaves) 14 = .ok (.goto (4), 3) := by decide +kernel
theorem d_Flow_leaves_17 : decode (mC m_Flow_leaves) 17 = .ok (.iconst 0, 1) := by decide +kernel
theorem d_Flow_leaves_18 : decode (mC m_Flow_leaves) 18 = .ok (.ireturn, 1) := by decide +kernel
theorem d_Flow_hasLoopOfTests_0 : decode (mC m_Flow_hasLoopOfTests) 0 = .ok (.iconst 0, 1) := by decide +kernel
theorem d_Flow_hasLoopOfTests_1 : decode (mC m_Flow_hasLoopOfTests) 1 = .ok (.istore_n 1, 1) := by decide +kernel
theorem d_Flow_hasLoopOfTests_2 : decode (mC m_Flow_hasLoopOfTests) 2 = .ok (.iconst 0, 1) := by decide +kernel
theorem d_Flow_hasLoopOfTests_3 : decode (mC m_Flow_hasLoopOfTests) 3 = .ok (.istore_n 2, 1) := by decide +kernel
theorem d_Flow_hasLoopOfTests_4 : decode (mC m_Flow_hasLoopOfTests) 4 = .ok (.iload_n 2, 1) := by decide +kernel
theorem d_Flow_hasLoopOfTests_5 : decode (mC m_Flow_hasLoopOfTests) 5 = .ok (.aload_n 0, 1) := by decide +kernel
theorem d_Flow_hasLoopOfTests_6 : decode (mC m_Flow_hasLoopOfTests) 6 = .ok (.getfield 27, 3) := by decide +kernel
theorem d_Flow_hasLoopOfTests_9 : decode (mC m_Flow_hasLoopOfTests) 9 = .ok (.if_icmp .ge (65), 3) := by decide +kernel
theorem d_Flow_hasLoopOfTests_12 : decode (mC m_Flow_hasLoopOfTests) 12 = .ok (.iconst 0, 1) := by decide +kernel
theorem d_Flow_hasLoopOfTests_13 : decode (mC m_Flow_hasLoopOfTests) 13 = .ok (.istore_n 3, 1) := by decide +kernel
theorem d_Flow_hasLoopOfTests_14 : decode (mC m_Flow_hasLoopOfTests) 14 = .ok (.iload_n 3, 1) := by decide +kernel
theorem d_Flow_hasLoopOfTests_15 : decode (mC m_Flow_hasLoopOfTests) 15 = .ok (.aload_n 0, 1) := by decide +kernel
theorem d_Flow_hasLoopOfTests_16 : decode (mC m_Flow_hasLoopOfTests) 16 = .ok (.getfield 27, 3) := by decide +kernel
theorem d_Flow_hasLoopOfTests_19 : decode (mC m_Flow_hasLoopOfTests) 19 = .ok (.if_icmp .ge (49), 3) := by decide +kernel
theorem d_Flow_hasLoopOfTests_22 : decode (mC m_Flow_hasLoopOfTests) 22 = .ok (.aload_n 0, 1) := by decide +kernel
theorem d_Flow_hasLoopOfTests_23 : decode (mC m_Flow_hasLoopOfTests) 23 = .ok (.iload_n 3, 1) := by decide +kernel
theorem d_Flow_hasLoopOfTests_24 : decode (mC m_Flow_hasLoopOfTests) 24 = .ok (.invokevirtual 50, 3) := by decide +kernel
theorem d_Flow_hasLoopOfTests_27 : decode (mC m_Flow_hasLoopOfTests) 27 = .ok (.ifCond .eq (29), 3) := by decide +kernel
theorem d_Flow_hasLoopOfTests_30 : decode (mC m_Flow_hasLoopOfTests) 30 = .ok (.aload_n 0, 1) := by decide +kernel
theorem d_Flow_hasLoopOfTests_31 : decode (mC m_Flow_hasLoopOfTests) 31 = .ok (.iload_n 3, 1) := by decide +kernel
theorem d_Flow_hasLoopOfTests_32 : decode (mC m_Flow_hasLoopOfTests) 32 = .ok (.iconst 1, 1) := by decide +kernel
theorem d_Flow_hasLoopOfTests_33 : decode (mC m_Flow_hasLoopOfTests) 33 = .ok (.invokevirtual 43, 3) := by decide +kernel
theorem d_Flow_hasLoopOfTests_36 : decode (mC m_Flow_hasLoopOfTests) 36 = .ok (.iload_n 1, 1) := by decide +kernel
theorem d_Flow_hasLoopOfTests_37 : decode (mC m_Flow_hasLoopOfTests) 37 = .ok (.invokestatic 53, 3) := by decide +kernel
theorem d_Flow_hasLoopOfTests_40 : decode (mC m_Flow_hasLoopOfTests) 40 = .ok (.ifCond .eq (22), 3) := by decide +kernel
theorem d_Flow_hasLoopOfTests_43 : decode (mC m_Flow_hasLoopOfTests) 43 = .ok (.aload_n 0, 1) := by decide +kernel
theorem d_Flow_hasLoopOfTests_44 : decode (mC m_Flow_hasLoopOfTests) 44 = .ok (.iload_n 3, 1) := by decide +kernel
theorem d_Flow_hasLoopOfTests_45 : decode (mC m_Flow_hasLoopOfTests) 45 = .ok (.iconst 0, 1) := by decide +kernel
theorem d_Flow_hasLoopOfTests_46 : decode (mC m_Flow_hasLoopOfTests) 46 = .ok (.invokevirtual 43, 3) := by decide +kernel
theorem d_Flow_hasLoopOfTests_49 : decode (mC m_Flow_hasLoopOfTests) 49 = .ok (.iload_n 1, 1) := by decide +kernel
theorem d_Flow_hasLoopOfTests_50 : decode (mC m_Flow_hasLoopOfTests) 50 = .ok (.invokestatic 53, 3) := by decide +kernel
theorem d_Flow_hasLoopOfTests_53 : decode (mC m_Flow_hasLoopOfTests) 53 = .ok (.ifCond .eq (9), 3) := by decide +kernel
theorem d_Flow_hasLoopOfTests_56 : decode (mC m_Flow_hasLoopOfTests) 56 = .ok (.iload_n 1, 1) := by decide +kernel
theorem d_Flow_hasLoopOfTests_57 : decode (mC m_Flow_hasLoopOfTests) 57 = .ok (.iconst 1, 1) := by decide +kernel
theorem d_Flow_hasLoopOfTests_58 : decode (mC m_Flow_hasLoopOfTests) 58 = .ok (.iload_n 3, 1) := by decide +kernel
theorem d_Flow_hasLoopOfTests_59 : decode (mC m_Flow_hasLoopOfTests) 59 = .ok (.ishl, 1) := by decide +kernel
theorem d_Flow_hasLoopOfTests_60 : decode (mC m_Flow_hasLoopOfTests) 60 = .ok (.ior, 1) := by decide +kernel
theorem d_Flow_hasLoopOfTests_61 : decode (mC m_Flow_hasLoopOfTests) 61 = .ok (.istore_n 1, 1) := by decide +kernel
theorem d_Flow_hasLoopOfTests_62 : decode (mC m_Flow_hasLoopOfTests) 62 = .ok (.iinc 3 (1), 3) := by decide +kernel
theorem d_Flow_hasLoopOfTests_65 : decode (mC m_Flow_hasLoopOfTests) 65 = .ok (.goto (-51), 3) := by decide +kernel
theorem d_Flow_hasLoopOfTests_68 : decode (mC m_Flow_hasLoopOfTests) 68 = .ok (.iinc 2 (1), 3) := by decide +kernel
theorem d_Flow_hasLoopOfTests_71 : decode (mC m_Flow_hasLoopOfTests) 71 = .ok (.goto (-67), 3) := by decide +kernel
theorem d_Flow_hasLoopOfTests_74 : decode (mC m_Flow_hasLoopOfTests) 74 = .ok (.iload_n 1, 1) := by decide +kernel
theorem d_Flow_hasLoopOfTests_75 : decode (mC m_Flow_hasLoopOfTests) 75 = .ok (.iconst 1, 1) := by decide +kernel
theorem d_Flow_hasLoopOfTests_76 : decode (mC m_Flow_hasLoopOfTests) 76 = .ok (.aload_n 0, 1) := by decide +kernel
theorem d_Flow_hasLoopOfTests_77 : decode (mC m_Flow_hasLoopOfTests) 77 = .ok (.getfield 27, 3) := by decide +kernel
theorem d_Flow_hasLoopOfTests_80 : decode (mC m_Flow_hasLoopOfTests) 80 = .ok (.ishl, 1) := by decide +kernel
theorem d_Flow_hasLoopOfTests_81 : decode (mC m_Flow_hasLoopOfTests) 81 = .ok (.iconst 1, 1) := by decide +kernel
theorem d_Flow_hasLoopOfTests_82 : decode (mC m_Flow_hasLoopOfTests) 82 = .ok (.isub, 1) := by decide +kernel
theorem d_Flow_hasLoopOfTests_83 : decode (mC m_Flow_hasLoopOfTests) 83 = .ok (.if_icmp .eq (7), 3) := by decide +kernel
theorem d_Flow_hasLoopOfTests_86 : decode (mC m_Flow_hasLoopOfTests) 86 = .ok (.iconst 1, 1) := by decide +kernel
theorem d_Flow_hasLoopOfTests_87 : decode (mC m_Flow_hasLoopOfTests) 87 = .ok (.goto (4), 3) := by decide +kernel
theorem d_Flow_hasLoopOfTests_90 : decode (mC m_Flow_hasLoopOfTests) 90 = .ok (.iconst 0, 1) := by decide +kernel
theorem d_Flow_hasLoopOfTests_91 : decode (mC m_Flow_hasLoopOfTests) 91 = .ok (.ireturn, 1) := by decide +kernel
theorem d_AS_newLength_0 : decode (mC m_AS_newLength) 0 = .ok (.iload_n 0, 1) := by decide +kernel
theorem d_AS_newLength_1 : decode (mC m_AS_newLength) 1 = .ok (.iload_n 1, 1) := by decide +kernel
theorem d_AS_newLength_2 : decode (mC m_AS_newLength) 2 = .ok (.iload_n 2, 1) := by decide +kernel
theorem d_AS_newLength_3 : decode (mC m_AS_newLength) 3 = .ok (.invokestatic 194, 3) := by decide +kernel
theorem d_AS_newLength_6 : decode (mC m_AS_newLength) 6 = .ok (.iadd, 1) := by decide +kernel
theorem d_AS_newLength_7 : decode (mC m_AS_newLength) 7 = .ok (.istore_n 3, 1) := by decide +kernel
theorem d_AS_newLength_8 : decode (mC m_AS_newLength) 8 = .ok (.iconst 0, 1) := by decide +kernel
theorem d_AS_newLength_9 : decode (mC m_AS_newLength) 9 = .ok (.iload_n 3, 1) := by decide +kernel
theorem d_AS_newLength_10 : decode (mC m_AS_newLength) 10 = .ok (.if_icmp .ge (11), 3) := by decide +kernel
theorem d_AS_newLength_13 : decode (mC m_AS_newLength) 13 = .ok (.iload_n 3, 1) := by decide +kernel
theorem d_AS_newLength_14 : decode (mC m_AS_newLength) 14 = .ok (.ldc 200, 2) := by decide +kernel
theorem d_AS_newLength_16 : decode (mC m_AS_newLength) 16 = .ok (.if_icmp .gt (5), 3) := by decide +kernel
theorem d_AS_newLength_19 : decode (mC m_AS_newLength) 19 = .ok (.iload_n 3, 1) := by decide +kernel
theorem d_AS_newLength_20 : decode (mC m_AS_newLength) 20 = .ok (.ireturn, 1) := by decide +kernel
theorem d_AS_newLength_21 : decode (mC m_AS_newLength) 21 = .ok (.iload_n 0, 1) := by decide +kernel
theorem d_AS_newLength_22 : decode (mC m_AS_newLength) 22 = .ok (.iload_n 1, 1) := by decide +kernel
theorem d_AR_copyOf2_0 : decode (mC m_AR_copyOf2) 0 = .ok (.aload_n 2, 1) := by decide +kernel
theorem d_AR_copyOf2_1 : decode (mC m_AR_copyOf2) 1 = .ok (.ldc 110, 2) := by decide +kernel
theorem d_AR_copyOf2_3 : decode (mC m_AR_copyOf2) 3 = .ok (.if_acmp .ne (10), 3) := by decide +kernel
theorem d_AR_copyOf2_6 : decode (mC m_AR_copyOf2) 6 = .ok (.iload_n 1, 1) := by decide +kernel
theorem d_AR_copyOf2_7 : decode (mC m_AR_copyOf2) 7 = .ok (.anewarray 2, 3) := by decide +kernel
theorem d_AR_copyOf2_10 : decode (mC m_AR_copyOf2) 10 = .ok (.goto (14), 3) := by decide +kernel
theorem d_AR_copyOf2_24 : decode (mC m_AR_copyOf2) 24 = .ok (.astore_n 3, 1) := by decide +kernel
theorem d_AR_copyOf2_25 : decode (mC m_AR_copyOf2) 25 = .ok (.aload_n 0, 1) := by decide +kernel
theorem d_AR_copyOf2_26 : decode (mC m_AR_copyOf2) 26 = .ok (.iconst 0, 1) := by decide +kernel
theorem d_AR_copyOf2_27 : decode (mC m_AR_copyOf2) 27 = .ok (.aload_n 3, 1) := by decide +kernel
theorem d_AR_copyOf2_28 : decode (mC m_AR_copyOf2) 28 = .ok (.iconst 0, 1) := by decide +kernel
theorem d_AR_copyOf2_29 : decode (mC m_AR_copyOf2) 29 = .ok (.aload_n 0, 1) := by decide +kernel
theorem d_AR_copyOf2_30 : decode (mC m_AR_copyOf2) 30 = .ok (.arraylength, 1) := by decide +kernel
theorem d_AR_copyOf2_31 : decode (mC m_AR_copyOf2) 31 = .ok (.iload_n 1, 1) := by decide +kernel
theorem d_AR_copyOf2_32 : decode (mC m_AR_copyOf2) 32 = .ok (.invokestatic 304, 3) := by decide +kernel
theorem d_AR_copyOf2_35 : decode (mC m_AR_copyOf2) 35 = .ok (.invokestatic 150, 3) := by decide +kernel
theorem d_AR_copyOf2_38 : decode (mC m_AR_copyOf2) 38 = .ok (.aload_n 3, 1) := by decide +kernel
theorem d_AR_copyOf2_39 : decode (mC m_AR_copyOf2) 39 = .ok (.areturn, 1) := by decide +kernel
theorem d_AR_copyOf1_0 : decode (mC m_AR_copyOf1) 0 = .ok (.aload_n 0, 1) := by decide +kernel
theorem d_AR_copyOf1_1 : decode (mC m_AR_copyOf1) 1 = .ok (.iload_n 1, 1) := by decide +kernel
theorem d_AR_copyOf1_2 : decode (mC m_AR_copyOf1) 2 = .ok (.aload_n 0, 1) := by decide +kernel
theorem d_AR_copyOf1_3 : decode (mC m_AR_copyOf1) 3 = .ok (.invokevirtual 86, 3) := by decide +kernel
theorem d_AR_copyOf1_6 : decode (mC m_AR_copyOf1) 6 = .ok (.invokestatic 300, 3) := by decide +kernel
theorem d_AR_copyOf1_9 : decode (mC m_AR_copyOf1) 9 = .ok (.areturn, 1) := by decide +kernel
theorem d_AL_grow2_0 : decode (mC m_AL_grow2) 0 = .ok (.aload_n 0, 1) := by decide +kernel
theorem d_AL_grow2_1 : decode (mC m_AL_grow2) 1 = .ok (.getfield 9, 3) := by decide +kernel
theorem d_AL_grow2_4 : decode (mC m_AL_grow2) 4 = .ok (.arraylength, 1) := by decide +kernel
theorem d_AL_grow2_5 : decode (mC m_AL_grow2) 5 = .ok (.istore_n 2, 1) := by decide +kernel
theorem d_AL_grow2_6 : decode (mC m_AL_grow2) 6 = .ok (.iload_n 2, 1) := by decide +kernel
theorem d_AL_grow2_7 : decode (mC m_AL_grow2) 7 = .ok (.ifCond .gt (13), 3) := by decide +kernel
theorem d_AL_grow2_10 : decode (mC m_AL_grow2) 10 = .ok (.aload_n 0, 1) := by decide +kernel
theorem d_AL_grow2_11 : decode (mC m_AL_grow2) 11 = .ok (.getfield 9, 3) := by decide +kernel
theorem d_AL_grow2_14 : decode (mC m_AL_grow2) 14 = .ok (.getstatic 39, 3) := by decide +kernel
theorem d_AL_grow2_17 : decode (mC m_AL_grow2) 17 = .ok (.if_acmp .eq (28), 3) := by decide +kernel
theorem d_AL_grow2_20 : decode (mC m_AL_grow2) 20 = .ok (.iload_n 2, 1) := by decide +kernel
theorem d_AL_grow2_21 : decode (mC m_AL_grow2) 21 = .ok (.iload_n 1, 1) := by decide +kernel
theorem d_AL_grow2_22 : decode (mC m_AL_grow2) 22 = .ok (.iload_n 2, 1) := by decide +kernel
theorem d_AL_grow2_23 : decode (mC m_AL_grow2) 23 = .ok (.isub, 1) := by decide +kernel
theorem d_AL_grow2_24 : decode (mC m_AL_grow2) 24 = .ok (.iload_n 2, 1) := by decide +kernel
theorem d_AL_grow2_25 : decode (mC m_AL_grow2) 25 = .ok (.iconst 1, 1) := by decide +kernel
theorem d_AL_grow2_26 : decode (mC m_AL_grow2) 26 = .ok (.ishr, 1) := by decide +kernel
theorem d_AL_grow2_27 : decode (mC m_AL_grow2) 27 = .ok (.invokestatic 73, 3) := by decide +kernel
theorem d_AL_grow2_30 : decode (mC m_AL_grow2) 30 = .ok (.istore_n 3, 1) := by decide +kernel
theorem d_AL_grow2_31 : decode (mC m_AL_grow2) 31 = .ok (.aload_n 0, 1) := by decide +kernel
theorem d_AL_grow2_32 : decode (mC m_AL_grow2) 32 = .ok (.aload_n 0, 1) := by decide +kernel
theorem d_AL_grow2_33 : decode (mC m_AL_grow2) 33 = .ok (.getfield 9, 3) := by decide +kernel
theorem d_AL_grow2_36 : decode (mC m_AL_grow2) 36 = .ok (.iload_n 3, 1) := by decide +kernel
theorem d_AL_grow2_37 : decode (mC m_AL_grow2) 37 = .ok (.invokestatic 66, 3) := by decide +kernel
theorem d_AL_grow2_40 : decode (mC m_AL_grow2) 40 = .ok (.dup_x1, 1) := by decide +kernel
theorem d_AL_grow2_41 : decode (mC m_AL_grow2) 41 = .ok (.putfield 9, 3) := by decide +kernel
theorem d_AL_grow2_44 : decode (mC m_AL_grow2) 44 = .ok (.areturn, 1) := by decide +kernel
theorem d_AL_grow2_45 : decode (mC m_AL_grow2) 45 = .ok (.aload_n 0, 1) := by decide +kernel
theorem d_AL_grow2_46 : decode (mC m_AL_grow2) 46 = .ok (.bipush (10), 2) := by decide +kernel
theorem d_AL_grow2_48 : decode (mC m_AL_grow2) 48 = .ok (.iload_n 1, 1) := by decide +kernel
theorem d_AL_grow2_49 : decode (mC m_AL_grow2) 49 = .ok (.invokestatic 79, 3) := by decide +kernel
theorem d_AL_grow2_52 : decode (mC m_AL_grow2) 52 = .ok (.anewarray 7, 3) := by decide +kernel
theorem d_AL_grow2_55 : decode (mC m_AL_grow2) 55 = .ok (.dup_x1, 1) := by decide +kernel
theorem d_AL_grow2_56 : decode (mC m_AL_grow2) 56 = .ok (.putfield 9, 3) := by decide +kernel
theorem d_AL_grow2_59 : decode (mC m_AL_grow2) 59 = .ok (.areturn, 1) := by decide +kernel
theorem d_AL_grow1_0 : decode (mC m_AL_grow1) 0 = .ok (.aload_n 0, 1) := by decide +kernel
theorem d_AL_grow1_1 : decode (mC m_AL_grow1) 1 = .ok (.aload_n 0, 1) := by decide +kernel
theorem d_AL_grow1_2 : decode (mC m_AL_grow1) 2 = .ok (.getfield 48, 3) := by decide +kernel
theorem d_AL_grow1_5 : decode (mC m_AL_grow1) 5 = .ok (.iconst 1, 1) := by decide +kernel
theorem d_AL_grow1_6 : decode (mC m_AL_grow1) 6 = .ok (.iadd, 1) := by decide +kernel
theorem d_AL_grow1_7 : decode (mC m_AL_grow1) 7 = .ok (.invokevirtual 69, 3) := by decide +kernel
theorem d_AL_grow1_10 : decode (mC m_AL_grow1) 10 = .ok (.areturn, 1) := by decide +kernel
theorem d_AL_add2_0 : decode (mC m_AL_add2) 0 = .ok (.iload_n 3, 1) := by decide +kernel
theorem d_AL_add2_1 : decode (mC m_AL_add2) 1 = .ok (.aload_n 2, 1) := by decide +kernel
theorem d_AL_add2_2 : decode (mC m_AL_add2) 2 = .ok (.arraylength, 1) := by decide +kernel
theorem d_AL_add2_3 : decode (mC m_AL_add2) 3 = .ok (.if_icmp .ne (8), 3) := by decide +kernel
theorem d_AL_add2_6 : decode (mC m_AL_add2) 6 = .ok (.aload_n 0, 1) := by decide +kernel
theorem d_AL_add2_7 : decode (mC m_AL_add2) 7 = .ok (.invokevirtual 129, 3) := by decide +kernel
theorem d_AL_add2_10 : decode (mC m_AL_add2) 10 = .ok (.astore_n 2, 1) := by decide +kernel
theorem d_AL_add2_11 : decode (mC m_AL_add2) 11 = .ok (.aload_n 2, 1) := by decide +kernel
theorem d_AL_add2_12 : decode (mC m_AL_add2) 12 = .ok (.iload_n 3, 1) := by decide +kernel
theorem d_AL_add2_13 : decode (mC m_AL_add2) 13 = .ok (.aload_n 1, 1) := by decide +kernel
theorem d_AL_add2_14 : decode (mC m_AL_add2) 14 = .ok (.aastore, 1) := by decide +kernel
theorem d_AL_add2_15 : decode (mC m_AL_add2) 15 = .ok (.aload_n 0, 1) := by decide +kernel
theorem d_AL_add2_16 : decode (mC m_AL_add2) 16 = .ok (.iload_n 3, 1) := by decide +kernel
theorem d_AL_add2_17 : decode (mC m_AL_add2) 17 = .ok (.iconst 1, 1) := by decide +kernel
theorem d_AL_add2_18 : decode (mC m_AL_add2) 18 = .ok (.iadd, 1) := by decide +kernel
theorem d_AL_add2_19 : decode (mC m_AL_add2) 19 = .ok (.putfield 48, 3) := by decide +kernel
theorem d_AL_add2_22 : decode (mC m_AL_add2) 22 = .ok (.return_, 1) := by decide +kernel
theorem d_AL_add1_0 : decode (mC m_AL_add1) 0 = .ok (.aload_n 0, 1) := by decide +kernel
theorem d_AL_add1_1 : decode (mC m_AL_add1) 1 = .ok (.dup, 1) := by decide +kernel
theorem d_AL_add1_2 : decode (mC m_AL_add1) 2 = .ok (.getfield 63, 3) := by decide +kernel
theorem d_AL_add1_5 : decode (mC m_AL_add1) 5 = .ok (.iconst 1, 1) := by decide +kernel
theorem d_AL_add1_6 : decode (mC m_AL_add1) 6 = .ok (.iadd, 1) := by decide +kernel
theorem d_AL_add1_7 : decode (mC m_AL_add1) 7 = .ok (.putfield 63, 3) := by decide +kernel
theorem d_AL_add1_10 : decode (mC m_AL_add1) 10 = .ok (.aload_n 0, 1) := by decide +kernel
theorem d_AL_add1_11 : decode (mC m_AL_add1) 11 = .ok (.aload_n 1, 1) := by decide +kernel
theorem d_AL_add1_12 : decode (mC m_AL_add1) 12 = .ok (.aload_n 0, 1) := by decide +kernel
theorem d_AL_add1_13 : decode (mC m_AL_add1) 13 = .ok (.getfield 9, 3) := by decide +kernel
theorem d_AL_add1_16 : decode (mC m_AL_add1) 16 = .ok (.aload_n 0, 1) := by decide +kernel
theorem d_AL_add1_17 : decode (mC m_AL_add1) 17 = .ok (.getfield 48, 3) := by decide +kernel
theorem d_AL_add1_20 : decode (mC m_AL_add1) 20 = .ok (.invokevirtual 131, 3) := by decide +kernel
theorem d_AL_add1_23 : decode (mC m_AL_add1) 23 = .ok (.iconst 1, 1) := by decide +kernel
theorem d_AL_add1_24 : decode (mC m_AL_add1) 24 = .ok (.ireturn, 1) := by decide +kernel
theorem d_K_publish_0 : decode (mC m_K_publish) 0 = .ok (.aload_n 0, 1) := by decide +kernel
theorem d_K_publish_1 : decode (mC m_K_publish) 1 = .ok (.getfield 39, 3) := by decide +kernel
theorem d_K_publish_4 : decode (mC m_K_publish) 4 = .ok (.invokevirtual 134, 3) := by decide +kernel
theorem d_K_publish_7 : decode (mC m_K_publish) 7 = .ok (.bipush (8), 2) := by decide +kernel
theorem d_K_publish_9 : decode (mC m_K_publish) 9 = .ok (.if_icmp .ge (7), 3) := by decide +kernel
theorem d_K_publish_12 : decode (mC m_K_publish) 12 = .ok (.iconst 1, 1) := by decide +kernel
theorem d_K_publish_13 : decode (mC m_K_publish) 13 = .ok (.goto (4), 3) := by decide +kernel
theorem d_K_publish_16 : decode (mC m_K_publish) 16 = .ok (.iconst 0, 1) := by decide +kernel
theorem d_K_publish_17 : decode (mC m_K_publish) 17 = .ok (.invokestatic 96, 3) := by decide +kernel
theorem d_K_publish_20 : decode (mC m_K_publish) 20 = .ok (.aload_n 0, 1) := by decide +kernel
theorem d_K_publish_21 : decode (mC m_K_publish) 21 = .ok (.getfield 32, 3) := by decide +kernel
theorem d_K_publish_24 : decode (mC m_K_publish) 24 = .ok (.getfield 127, 3) := by decide +kernel
theorem d_K_publish_27 : decode (mC m_K_publish) 27 = .ok (.ifCond .le (27), 3) := by decide +kernel
theorem d_K_publish_30 : decode (mC m_K_publish) 30 = .ok (.aload_n 0, 1) := by decide +kernel
theorem d_K_publish_31 : decode (mC m_K_publish) 31 = .ok (.getfield 32, 3) := by decide +kernel
theorem d_K_publish_34 : decode (mC m_K_publish) 34 = .ok (.invokevirtual 138, 3) := by decide +kernel
theorem d_K_publish_37 : decode (mC m_K_publish) 37 = .ok (.ifCond .eq (17), 3) := by decide +kernel
theorem d_K_publish_40 : decode (mC m_K_publish) 40 = .ok (.aload_n 0, 1) := by decide +kernel
theorem d_K_publish_41 : decode (mC m_K_publish) 41 = .ok (.getfield 32, 3) := by decide +kernel
theorem d_K_publish_44 : decode (mC m_K_publish) 44 = .ok (.invokevirtual 142, 3) := by decide +kernel
theorem d_K_publish_47 : decode (mC m_K_publish) 47 = .ok (.ifCond .ne (7), 3) := by decide +kernel
theorem d_K_publish_50 : decode (mC m_K_publish) 50 = .ok (.iconst 1, 1) := by decide +kernel
theorem d_K_publish_51 : decode (mC m_K_publish) 51 = .ok (.goto (4), 3) := by decide +kernel
theorem d_K_publish_54 : decode (mC m_K_publish) 54 = .ok (.iconst 0, 1) := by decide +kernel
theorem d_K_publish_55 : decode (mC m_K_publish) 55 = .ok (.invokestatic 96, 3) := by decide +kernel
theorem d_K_publish_58 : decode (mC m_K_publish) 58 = .ok (.aload_n 0, 1) := by decide +kernel
theorem d_K_publish_59 : decode (mC m_K_publish) 59 = .ok (.getfield 39, 3) := by decide +kernel
theorem d_K_publish_62 : decode (mC m_K_publish) 62 = .ok (.aload_n 0, 1) := by decide +kernel
theorem d_K_publish_63 : decode (mC m_K_publish) 63 = .ok (.getfield 32, 3) := by decide +kernel
theorem d_K_publish_66 : decode (mC m_K_publish) 66 = .ok (.invokevirtual 145, 3) := by decide +kernel
theorem d_K_publish_69 : decode (mC m_K_publish) 69 = .ok (.pop, 1) := by decide +kernel
theorem d_K_publish_70 : decode (mC m_K_publish) 70 = .ok (.aload_n 0, 1) := by decide +kernel
theorem d_K_publish_71 : decode (mC m_K_publish) 71 = .ok (.new 29, 3) := by decide +kernel
theorem d_K_publish_74 : decode (mC m_K_publish) 74 = .ok (.dup, 1) := by decide +kernel
theorem d_K_publish_75 : decode (mC m_K_publish) 75 = .ok (.invokespecial 31, 3) := by decide +kernel
theorem d_K_publish_78 : decode (mC m_K_publish) 78 = .ok (.putfield 32, 3) := by decide +kernel
theorem d_K_publish_81 : decode (mC m_K_publish) 81 = .ok (.aload_n 0, 1) := by decide +kernel
theorem d_K_publish_82 : decode (mC m_K_publish) 82 = .ok (.getfield 39, 3) := by decide +kernel
theorem d_K_publish_85 : decode (mC m_K_publish) 85 = .ok (.invokevirtual 134, 3) := by decide +kernel
theorem d_K_publish_88 : decode (mC m_K_publish) 88 = .ok (.iconst 1, 1) := by decide +kernel
theorem d_K_publish_89 : decode (mC m_K_publish) 89 = .ok (.isub, 1) := by decide +kernel
theorem d_K_publish_90 : decode (mC m_K_publish) 90 = .ok (.ireturn, 1) := by decide +kernel
theorem d_W_publish_0 : decode (mC m_W_publish) 0 = .ok (.aload_n 1, 1) := by decide +kernel
theorem d_W_publish_1 : decode (mC m_W_publish) 1 = .ok (.iconst 0, 1) := by decide +kernel
theorem d_W_publish_2 : decode (mC m_W_publish) 2 = .ok (.aload_n 0, 1) := by decide +kernel
theorem d_W_publish_3 : decode (mC m_W_publish) 3 = .ok (.invokevirtual 30, 3) := by decide +kernel
theorem d_W_publish_6 : decode (mC m_W_publish) 6 = .ok (.i2l, 1) := by decide +kernel
theorem d_W_publish_7 : decode (mC m_W_publish) 7 = .ok (.lastore, 1) := by decide +kernel
theorem d_W_publish_8 : decode (mC m_W_publish) 8 = .ok (.goto (6), 3) := by decide +kernel
theorem d_W_publish_11 : decode (mC m_W_publish) 11 = .ok (.astore_n 2, 1) := by decide +kernel
theorem d_W_publish_12 : decode (mC m_W_publish) 12 = .ok (.iconst 1, 1) := by decide +kernel
theorem d_W_publish_13 : decode (mC m_W_publish) 13 = .ok (.ireturn, 1) := by decide +kernel
theorem d_W_publish_14 : decode (mC m_W_publish) 14 = .ok (.iconst 0, 1) := by decide +kernel
theorem d_W_publish_15 : decode (mC m_W_publish) 15 = .ok (.ireturn, 1) := by decide +kernel
theorem d_M_isTest_0 : decode (mC m_M_isTest) 0 = .ok (.iload_n 0, 1) := by decide +kernel
theorem d_M_isTest_1 : decode (mC m_M_isTest) 1 = .ok (.iconst 1, 1) := by decide +kernel
theorem d_M_isTest_2 : decode (mC m_M_isTest) 2 = .ok (.if_icmp .lt (12), 3) := by decide +kernel
theorem d_M_isTest_5 : decode (mC m_M_isTest) 5 = .ok (.iload_n 0, 1) := by decide +kernel
theorem d_M_isTest_6 : decode (mC m_M_isTest) 6 = .ok (.iconst 4, 1) := by decide +kernel
theorem d_M_isTest_7 : decode (mC m_M_isTest) 7 = .ok (.if_icmp .gt (7), 3) := by decide +kernel
theorem d_M_isTest_10 : decode (mC m_M_isTest) 10 = .ok (.iconst 1, 1) := by decide +kernel
theorem d_M_isTest_11 : decode (mC m_M_isTest) 11 = .ok (.goto (4), 3) := by decide +kernel
theorem d_M_isTest_14 : decode (mC m_M_isTest) 14 = .ok (.iconst 0, 1) := by decide +kernel
theorem d_M_isTest_15 : decode (mC m_M_isTest) 15 = .ok (.ireturn, 1) := by decide +kernel
theorem d_M_circles_0 : decode (mC m_M_circles) 0 = .ok (.iconst 0, 1) := by decide +kernel
theorem d_M_circles_1 : decode (mC m_M_circles) 1 = .ok (.istore_n 2, 1) := by decide +kernel
theorem d_M_circles_2 : decode (mC m_M_circles) 2 = .ok (.iconst 1, 1) := by decide +kernel
theorem d_M_circles_3 : decode (mC m_M_circles) 3 = .ok (.iload_n 1, 1) := by decide +kernel
theorem d_M_circles_4 : decode (mC m_M_circles) 4 = .ok (.ishl, 1) := by decide +kernel
theorem d_M_circles_5 : decode (mC m_M_circles) 5 = .ok (.istore_n 3, 1) := by decide +kernel
theorem d_M_circles_6 : decode (mC m_M_circles) 6 = .ok (.iconst 0, 1) := by decide +kernel
theorem d_M_circles_7 : decode (mC m_M_circles) 7 = .ok (.istore 4, 2) := by decide +kernel
theorem d_M_circles_9 : decode (mC m_M_circles) 9 = .ok (.iload_n 3, 1) := by decide +kernel
theorem d_M_circles_10 : decode (mC m_M_circles) 10 = .ok (.iload_n 2, 1) := by decide +kernel
theorem d_M_circles_11 : decode (mC m_M_circles) 11 = .ok (.if_icmp .eq (135), 3) := by decide +kernel
theorem d_M_circles_14 : decode (mC m_M_circles) 14 = .ok (.iload_n 3, 1) := by decide +kernel
theorem d_M_circles_15 : decode (mC m_M_circles) 15 = .ok (.istore_n 2, 1) := by decide +kernel
theorem d_M_circles_16 : decode (mC m_M_circles) 16 = .ok (.iconst 0, 1) := by decide +kernel
theorem d_M_circles_17 : decode (mC m_M_circles) 17 = .ok (.istore 5, 2) := by decide +kernel
theorem d_M_circles_19 : decode (mC m_M_circles) 19 = .ok (.iload 5, 2) := by decide +kernel
theorem d_M_circles_21 : decode (mC m_M_circles) 21 = .ok (.aload_n 0, 1) := by decide +kernel
theorem d_M_circles_22 : decode (mC m_M_circles) 22 = .ok (.getfield 35, 3) := by decide +kernel
theorem d_M_circles_25 : decode (mC m_M_circles) 25 = .ok (.bipush (8), 2) := by decide +kernel
theorem d_M_circles_27 : decode (mC m_M_circles) 27 = .ok (.iaload, 1) := by decide +kernel
theorem d_M_circles_28 : decode (mC m_M_circles) 28 = .ok (.if_icmp .ge (115), 3) := by decide +kernel
theorem d_M_circles_31 : decode (mC m_M_circles) 31 = .ok (.iload_n 2, 1) := by decide +kernel
theorem d_M_circles_32 : decode (mC m_M_circles) 32 = .ok (.iload 5, 2) := by decide +kernel
theorem d_M_circles_34 : decode (mC m_M_circles) 34 = .ok (.ishr, 1) := by decide +kernel
theorem d_M_circles_35 : decode (mC m_M_circles) 35 = .ok (.iconst 1, 1) := by decide +kernel
theorem d_M_circles_36 : decode (mC m_M_circles) 36 = .ok (.iand, 1) := by decide +kernel
theorem d_M_circles_37 : decode (mC m_M_circles) 37 = .ok (.iconst 1, 1) := by decide +kernel
theorem d_M_circles_38 : decode (mC m_M_circles) 38 = .ok (.if_icmp .ne (99), 3) := by decide +kernel
theorem d_M_circles_41 : decode (mC m_M_circles) 41 = .ok (.aload_n 0, 1) := by decide +kernel
theorem d_M_circles_42 : decode (mC m_M_circles) 42 = .ok (.getfield 38, 3) := by decide +kernel
theorem d_M_circles_45 : decode (mC m_M_circles) 45 = .ok (.bipush (96), 2) := by decide +kernel
theorem d_M_circles_47 : decode (mC m_M_circles) 47 = .ok (.iload 5, 2) := by decide +kernel
theorem d_M_circles_49 : decode (mC m_M_circles) 49 = .ok (.iadd, 1) := by decide +kernel
theorem d_M_circles_50 : decode (mC m_M_circles) 50 = .ok (.iaload, 1) := by decide +kernel
theorem d_M_circles_51 : decode (mC m_M_circles) 51 = .ok (.invokestatic 300, 3) := by decide +kernel
theorem d_M_circles_54 : decode (mC m_M_circles) 54 = .ok (.ifCond .eq (83), 3) := by decide +kernel
theorem d_M_circles_57 : decode (mC m_M_circles) 57 = .ok (.aload_n 0, 1) := by decide +kernel
theorem d_M_circles_58 : decode (mC m_M_circles) 58 = .ok (.getfield 47, 3) := by decide +kernel
theorem d_M_circles_61 : decode (mC m_M_circles) 61 = .ok (.bipush (96), 2) := by decide +kernel
theorem d_M_circles_63 : decode (mC m_M_circles) 63 = .ok (.iload 5, 2) := by decide +kernel
theorem d_M_circles_65 : decode (mC m_M_circles) 65 = .ok (.iadd, 1) := by decide +kernel
theorem d_M_circles_66 : decode (mC m_M_circles) 66 = .ok (.iaload, 1) := by decide +kernel
theorem d_M_circles_67 : decode (mC m_M_circles) 67 = .ok (.istore 6, 2) := by decide +kernel
theorem d_M_circles_69 : decode (mC m_M_circles) 69 = .ok (.aload_n 0, 1) := by decide +kernel
theorem d_M_circles_70 : decode (mC m_M_circles) 70 = .ok (.getfield 50, 3) := by decide +kernel
theorem d_M_circles_73 : decode (mC m_M_circles) 73 = .ok (.bipush (96), 2) := by decide +kernel
theorem d_M_circles_75 : decode (mC m_M_circles) 75 = .ok (.iload 5, 2) := by decide +kernel
theorem d_M_circles_77 : decode (mC m_M_circles) 77 = .ok (.iadd, 1) := by decide +kernel
theorem d_M_circles_78 : decode (mC m_M_circles) 78 = .ok (.iaload, 1) := by decide +kernel
theorem d_M_circles_79 : decode (mC m_M_circles) 79 = .ok (.istore 7, 2) := by decide +kernel
theorem d_M_circles_81 : decode (mC m_M_circles) 81 = .ok (.iload 4, 2) := by decide +kernel
theorem d_M_circles_83 : decode (mC m_M_circles) 83 = .ok (.ifCond .ne (15), 3) := by decide +kernel
theorem d_M_circles_86 : decode (mC m_M_circles) 86 = .ok (.iload 6, 2) := by decide +kernel
theorem d_M_circles_88 : decode (mC m_M_circles) 88 = .ok (.iload_n 1, 1) := by decide +kernel
theorem d_M_circles_89 : decode (mC m_M_circles) 89 = .ok (.if_icmp .eq (9), 3) := by decide +kernel
theorem d_M_circles_92 : decode (mC m_M_circles) 92 = .ok (.iload 7, 2) := by decide +kernel
theorem d_M_circles_94 : decode (mC m_M_circles) 94 = .ok (.iload_n 1, 1) := by decide +kernel
theorem d_M_circles_95 : decode (mC m_M_circles) 95 = .ok (.if_icmp .ne (7), 3) := by decide +kernel
theorem d_M_circles_98 : decode (mC m_M_circles) 98 = .ok (.iconst 1, 1) := by decide +kernel
theorem d_M_circles_99 : decode (mC m_M_circles) 99 = .ok (.goto (4), 3) := by decide +kernel
theorem d_M_circles_102 : decode (mC m_M_circles) 102 = .ok (.iconst 0, 1) := by decide +kernel
theorem d_M_circles_103 : decode (mC m_M_circles) 103 = .ok (.istore 4, 2) := by decide +kernel
theorem d_M_circles_105 : decode (mC m_M_circles) 105 = .ok (.iload_n 3, 1) := by decide +kernel
theorem d_M_circles_106 : decode (mC m_M_circles) 106 = .ok (.iload 6, 2) := by decide +kernel
theorem d_M_circles_108 : decode (mC m_M_circles) 108 = .ok (.ifCond .lt (10), 3) := by decide +kernel
theorem d_M_circles_111 : decode (mC m_M_circles) 111 = .ok (.iconst 1, 1) := by decide +kernel
theorem d_M_circles_112 : decode (mC m_M_circles) 112 = .ok (.iload 6, 2) := by decide +kernel
theorem d_M_circles_114 : decode (mC m_M_circles) 114 = .ok (.ishl, 1) := by decide +kernel
theorem d_M_circles_115 : decode (mC m_M_circles) 115 = .ok (.goto (4), 3) := by decide +kernel
theorem d_M_circles_118 : decode (mC m_M_circles) 118 = .ok (.iconst 0, 1) := by decide +kernel
theorem d_M_circles_119 : decode (mC m_M_circles) 119 = .ok (.ior, 1) := by decide +kernel
theorem d_M_circles_120 : decode (mC m_M_circles) 120 = .ok (.istore_n 3, 1) := by decide +kernel
theorem d_M_circles_121 : decode (mC m_M_circles) 121 = .ok (.iload_n 3, 1) := by decide +kernel
theorem d_M_circles_122 : decode (mC m_M_circles) 122 = .ok (.iload 7, 2) := by decide +kernel
theorem d_M_circles_124 : decode (mC m_M_circles) 124 = .ok (.ifCond .lt (10), 3) := by decide +kernel
theorem d_M_circles_127 : decode (mC m_M_circles) 127 = .ok (.iconst 1, 1) := by decide +kernel
theorem d_M_circles_128 : decode (mC m_M_circles) 128 = .ok (.iload 7, 2) := by decide +kernel
theorem d_M_circles_130 : decode (mC m_M_circles) 130 = .ok (.ishl, 1) := by decide +kernel
theorem d_M_circles_131 : decode (mC m_M_circles) 131 = .ok (.goto (4), 3) := by decide +kernel
theorem d_M_circles_134 : decode (mC m_M_circles) 134 = .ok (.iconst 0, 1) := by decide +kernel
theorem d_M_circles_135 : decode (mC m_M_circles) 135 = .ok (.ior, 1) := by decide +kernel
theorem d_M_circles_136 : decode (mC m_M_circles) 136 = .ok (.istore_n 3, 1) := by decide +kernel
theorem d_M_circles_137 : decode (mC m_M_circles) 137 = .ok (.iinc 5 (1), 3) := by decide +kernel
theorem d_M_circles_140 : decode (mC m_M_circles) 140 = .ok (.goto (-121), 3) := by decide +kernel
theorem d_M_circles_143 : decode (mC m_M_circles) 143 = .ok (.goto (-134), 3) := by decide +kernel
theorem d_M_circles_146 : decode (mC m_M_circles) 146 = .ok (.iload 4, 2) := by decide +kernel
theorem d_M_circles_148 : decode (mC m_M_circles) 148 = .ok (.ireturn, 1) := by decide +kernel
theorem d_M_may_0 : decode (mC m_M_may) 0 = .ok (.aload_n 0, 1) := by decide +kernel
theorem d_M_may_1 : decode (mC m_M_may) 1 = .ok (.iload_n 1, 1) := by decide +kernel
theorem d_M_may_2 : decode (mC m_M_may) 2 = .ok (.ifCond .eq (7), 3) := by decide +kernel
theorem d_M_may_5 : decode (mC m_M_may) 5 = .ok (.iconst 0, 1) := by decide +kernel
theorem d_M_may_6 : decode (mC m_M_may) 6 = .ok (.goto (4), 3) := by decide +kernel
theorem d_M_may_9 : decode (mC m_M_may) 9 = .ok (.iconst 1, 1) := by decide +kernel
theorem d_M_may_10 : decode (mC m_M_may) 10 = .ok (.putfield 225, 3) := by decide +kernel
theorem d_M_may_13 : decode (mC m_M_may) 13 = .ok (.iload_n 1, 1) := by decide +kernel
theorem d_M_may_14 : decode (mC m_M_may) 14 = .ok (.ireturn, 1) := by decide +kernel
theorem d_M_publish_0 : decode (mC m_M_publish) 0 = .ok (.aload_n 0, 1) := by decide +kernel
theorem d_M_publish_1 : decode (mC m_M_publish) 1 = .ok (.getfield 35, 3) := by decide +kernel
theorem d_M_publish_4 : decode (mC m_M_publish) 4 = .ok (.bipush (8), 2) := by decide +kernel
theorem d_M_publish_6 : decode (mC m_M_publish) 6 = .ok (.iaload, 1) := by decide +kernel
theorem d_M_publish_7 : decode (mC m_M_publish) 7 = .ok (.ifCond .le (16), 3) := by decide +kernel
theorem d_M_publish_10 : decode (mC m_M_publish) 10 = .ok (.aload_n 0, 1) := by decide +kernel
theorem d_M_publish_11 : decode (mC m_M_publish) 11 = .ok (.getfield 303, 3) := by decide +kernel
theorem d_M_publish_14 : decode (mC m_M_publish) 14 = .ok (.bipush (8), 2) := by decide +kernel
theorem d_M_publish_16 : decode (mC m_M_publish) 16 = .ok (.if_icmp .ge (7), 3) := by decide +kernel
theorem d_M_publish_19 : decode (mC m_M_publish) 19 = .ok (.iconst 1, 1) := by decide +kernel
theorem d_M_publish_20 : decode (mC m_M_publish) 20 = .ok (.goto (4), 3) := by decide +kernel
theorem d_M_publish_23 : decode (mC m_M_publish) 23 = .ok (.iconst 0, 1) := by decide +kernel
theorem d_M_publish_24 : decode (mC m_M_publish) 24 = .ok (.istore_n 1, 1) := by decide +kernel
theorem d_M_publish_25 : decode (mC m_M_publish) 25 = .ok (.iconst 0, 1) := by decide +kernel
theorem d_M_publish_26 : decode (mC m_M_publish) 26 = .ok (.istore_n 2, 1) := by decide +kernel
theorem d_M_publish_27 : decode (mC m_M_publish) 27 = .ok (.iload_n 2, 1) := by decide +kernel
theorem d_M_publish_28 : decode (mC m_M_publish) 28 = .ok (.aload_n 0, 1) := by decide +kernel
theorem d_M_publish_29 : decode (mC m_M_publish) 29 = .ok (.getfield 35, 3) := by decide +kernel
theorem d_M_publish_32 : decode (mC m_M_publish) 32 = .ok (.bipush (8), 2) := by decide +kernel
theorem d_M_publish_34 : decode (mC m_M_publish) 34 = .ok (.iaload, 1) := by decide +kernel
theorem d_M_publish_35 : decode (mC m_M_publish) 35 = .ok (.if_icmp .ge (66), 3) := by decide +kernel
theorem d_M_publish_38 : decode (mC m_M_publish) 38 = .ok (.bipush (96), 2) := by decide +kernel
theorem d_M_publish_40 : decode (mC m_M_publish) 40 = .ok (.iload_n 2, 1) := by decide +kernel
theorem d_M_publish_41 : decode (mC m_M_publish) 41 = .ok (.iadd, 1) := by decide +kernel
theorem d_M_publish_42 : decode (mC m_M_publish) 42 = .ok (.istore_n 3, 1) := by decide +kernel
theorem d_M_publish_43 : decode (mC m_M_publish) 43 = .ok (.iload_n 1, 1) := by decide +kernel
theorem d_M_publish_44 : decode (mC m_M_publish) 44 = .ok (.ifCond .eq (49), 3) := by decide +kernel
theorem d_M_publish_47 : decode (mC m_M_publish) 47 = .ok (.aload_n 0, 1) := by decide +kernel
theorem d_M_publish_48 : decode (mC m_M_publish) 48 = .ok (.getfield 38, 3) := by decide +kernel
theorem d_M_publish_51 : decode (mC m_M_publish) 51 = .ok (.iload_n 3, 1) := by decide +kernel
theorem d_M_publish_52 : decode (mC m_M_publish) 52 = .ok (.iaload, 1) := by decide +kernel
theorem d_M_publish_53 : decode (mC m_M_publish) 53 = .ok (.iconst 5, 1) := by decide +kernel
theorem d_M_publish_54 : decode (mC m_M_publish) 54 = .ok (.if_icmp .ge (35), 3) := by decide +kernel
theorem d_M_publish_57 : decode (mC m_M_publish) 57 = .ok (.aload_n 0, 1) := by decide +kernel
theorem d_M_publish_58 : decode (mC m_M_publish) 58 = .ok (.getfield 47, 3) := by decide +kernel
theorem d_M_publish_61 : decode (mC m_M_publish) 61 = .ok (.iload_n 3, 1) := by decide +kernel
theorem d_M_publish_62 : decode (mC m_M_publish) 62 = .ok (.iaload, 1) := by decide +kernel
theorem d_M_publish_63 : decode (mC m_M_publish) 63 = .ok (.aload_n 0, 1) := by decide +kernel
theorem d_M_publish_64 : decode (mC m_M_publish) 64 = .ok (.getfield 35, 3) := by decide +kernel
theorem d_M_publish_67 : decode (mC m_M_publish) 67 = .ok (.bipush (8), 2) := by decide +kernel
theorem d_M_publish_69 : decode (mC m_M_publish) 69 = .ok (.iaload, 1) := by decide +kernel
theorem d_M_publish_70 : decode (mC m_M_publish) 70 = .ok (.if_icmp .ge (23), 3) := by decide +kernel
theorem d_M_publish_73 : decode (mC m_M_publish) 73 = .ok (.aload_n 0, 1) := by decide +kernel
theorem d_M_publish_74 : decode (mC m_M_publish) 74 = .ok (.getfield 50, 3) := by decide +kernel
theorem d_M_publish_77 : decode (mC m_M_publish) 77 = .ok (.iload_n 3, 1) := by decide +kernel
theorem d_M_publish_78 : decode (mC m_M_publish) 78 = .ok (.iaload, 1) := by decide +kernel
theorem d_M_publish_79 : decode (mC m_M_publish) 79 = .ok (.aload_n 0, 1) := by decide +kernel
theorem d_M_publish_80 : decode (mC m_M_publish) 80 = .ok (.getfield 35, 3) := by decide +kernel
theorem d_M_publish_83 : decode (mC m_M_publish) 83 = .ok (.bipush (8), 2) := by decide +kernel
theorem d_M_publish_85 : decode (mC m_M_publish) 85 = .ok (.iaload, 1) := by decide +kernel
theorem d_M_publish_86 : decode (mC m_M_publish) 86 = .ok (.if_icmp .ge (7), 3) := by decide +kernel
theorem d_M_publish_89 : decode (mC m_M_publish) 89 = .ok (.iconst 1, 1) := by decide +kernel
theorem d_M_publish_90 : decode (mC m_M_publish) 90 = .ok (.goto (4), 3) := by decide +kernel
theorem d_M_publish_93 : decode (mC m_M_publish) 93 = .ok (.iconst 0, 1) := by decide +kernel
theorem d_M_publish_94 : decode (mC m_M_publish) 94 = .ok (.istore_n 1, 1) := by decide +kernel
theorem d_M_publish_95 : decode (mC m_M_publish) 95 = .ok (.iinc 2 (1), 3) := by decide +kernel
theorem d_M_publish_98 : decode (mC m_M_publish) 98 = .ok (.goto (-71), 3) := by decide +kernel
theorem d_M_publish_101 : decode (mC m_M_publish) 101 = .ok (.iconst 0, 1) := by decide +kernel
theorem d_M_publish_102 : decode (mC m_M_publish) 102 = .ok (.istore_n 2, 1) := by decide +kernel
theorem d_M_publish_103 : decode (mC m_M_publish) 103 = .ok (.iload_n 2, 1) := by decide +kernel
theorem d_M_publish_104 : decode (mC m_M_publish) 104 = .ok (.aload_n 0, 1) := by decide +kernel
theorem d_M_publish_105 : decode (mC m_M_publish) 105 = .ok (.getfield 35, 3) := by decide +kernel
theorem d_M_publish_108 : decode (mC m_M_publish) 108 = .ok (.bipush (8), 2) := by decide +kernel
theorem d_M_publish_110 : decode (mC m_M_publish) 110 = .ok (.iaload, 1) := by decide +kernel
theorem d_M_publish_111 : decode (mC m_M_publish) 111 = .ok (.if_icmp .ge (42), 3) := by decide +kernel
theorem d_M_publish_114 : decode (mC m_M_publish) 114 = .ok (.iload_n 1, 1) := by decide +kernel
theorem d_M_publish_115 : decode (mC m_M_publish) 115 = .ok (.ifCond .eq (38), 3) := by decide +kernel
theorem d_M_publish_118 : decode (mC m_M_publish) 118 = .ok (.aload_n 0, 1) := by decide +kernel
theorem d_M_publish_119 : decode (mC m_M_publish) 119 = .ok (.getfield 38, 3) := by decide +kernel
theorem d_M_publish_122 : decode (mC m_M_publish) 122 = .ok (.bipush (96), 2) := by decide +kernel
theorem d_M_publish_124 : decode (mC m_M_publish) 124 = .ok (.iload_n 2, 1) := by decide +kernel
theorem d_M_publish_125 : decode (mC m_M_publish) 125 = .ok (.iadd, 1) := by decide +kernel
theorem d_M_publish_126 : decode (mC m_M_publish) 126 = .ok (.iaload, 1) := by decide +kernel
theorem d_M_publish_127 : decode (mC m_M_publish) 127 = .ok (.invokestatic 300, 3) := by decide +kernel
theorem d_M_publish_130 : decode (mC m_M_publish) 130 = .ok (.ifCond .eq (11), 3) := by decide +kernel
theorem d_M_publish_133 : decode (mC m_M_publish) 133 = .ok (.aload_n 0, 1) := by decide +kernel
theorem d_M_publish_134 : decode (mC m_M_publish) 134 = .ok (.iload_n 2, 1) := by decide +kernel
theorem d_M_publish_135 : decode (mC m_M_publish) 135 = .ok (.invokevirtual 306, 3) := by decide +kernel
theorem d_M_publish_138 : decode (mC m_M_publish) 138 = .ok (.ifCond .ne (7), 3) := by decide +kernel
theorem d_M_publish_141 : decode (mC m_M_publish) 141 = .ok (.iconst 1, 1) := by decide +kernel
theorem d_M_publish_142 : decode (mC m_M_publish) 142 = .ok (.goto (4), 3) := by decide +kernel
theorem d_M_publish_145 : decode (mC m_M_publish) 145 = .ok (.iconst 0, 1) := by decide +kernel
theorem d_M_publish_146 : decode (mC m_M_publish) 146 = .ok (.istore_n 1, 1) := by decide +kernel
theorem d_M_publish_147 : decode (mC m_M_publish) 147 = .ok (.iinc 2 (1), 3) := by decide +kernel
theorem d_M_publish_150 : decode (mC m_M_publish) 150 = .ok (.goto (-47), 3) := by decide +kernel
theorem d_M_publish_153 : decode (mC m_M_publish) 153 = .ok (.aload_n 0, 1) := by decide +kernel
theorem d_M_publish_154 : decode (mC m_M_publish) 154 = .ok (.iload_n 1, 1) := by decide +kernel
theorem d_M_publish_155 : decode (mC m_M_publish) 155 = .ok (.invokevirtual 251, 3) := by decide +kernel
theorem d_M_publish_158 : decode (mC m_M_publish) 158 = .ok (.ifCond .ne (5), 3) := by decide +kernel
theorem d_M_publish_161 : decode (mC m_M_publish) 161 = .ok (.iconst 0, 1) := by decide +kernel
theorem d_M_publish_162 : decode (mC m_M_publish) 162 = .ok (.ireturn, 1) := by decide +kernel
theorem d_M_publish_163 : decode (mC m_M_publish) 163 = .ok (.iconst 0, 1) := by decide +kernel
theorem d_M_publish_164 : decode (mC m_M_publish) 164 = .ok (.istore_n 2, 1) := by decide +kernel
theorem d_M_publish_165 : decode (mC m_M_publish) 165 = .ok (.iload_n 2, 1) := by decide +kernel
theorem d_M_publish_166 : decode (mC m_M_publish) 166 = .ok (.aload_n 0, 1) := by decide +kernel
theorem d_M_publish_167 : decode (mC m_M_publish) 167 = .ok (.getfield 35, 3) := by decide +kernel
theorem d_M_publish_170 : decode (mC m_M_publish) 170 = .ok (.bipush (8), 2) := by decide +kernel
theorem d_M_publish_172 : decode (mC m_M_publish) 172 = .ok (.iaload, 1) := by decide +kernel
theorem d_M_publish_173 : decode (mC m_M_publish) 173 = .ok (.if_icmp .ge (94), 3) := by decide +kernel
theorem d_M_publish_176 : decode (mC m_M_publish) 176 = .ok (.bipush (12), 2) := by decide +kernel
theorem d_M_publish_178 : decode (mC m_M_publish) 178 = .ok (.aload_n 0, 1) := by decide +kernel
theorem d_M_publish_179 : decode (mC m_M_publish) 179 = .ok (.getfield 303, 3) := by decide +kernel
theorem d_M_publish_182 : decode (mC m_M_publish) 182 = .ok (.imul, 1) := by decide +kernel
theorem d_M_publish_183 : decode (mC m_M_publish) 183 = .ok (.iload_n 2, 1) := by decide +kernel
theorem d_M_publish_184 : decode (mC m_M_publish) 184 = .ok (.iadd, 1) := by decide +kernel
theorem d_M_publish_185 : decode (mC m_M_publish) 185 = .ok (.istore_n 3, 1) := by decide +kernel
theorem d_M_publish_186 : decode (mC m_M_publish) 186 = .ok (.aload_n 0, 1) := by decide +kernel
theorem d_M_publish_187 : decode (mC m_M_publish) 187 = .ok (.getfield 38, 3) := by decide +kernel
theorem d_M_publish_190 : decode (mC m_M_publish) 190 = .ok (.iload_n 3, 1) := by decide +kernel
theorem d_M_publish_191 : decode (mC m_M_publish) 191 = .ok (.aload_n 0, 1) := by decide +kernel
theorem d_M_publish_192 : decode (mC m_M_publish) 192 = .ok (.getfield 38, 3) := by decide +kernel
theorem d_M_publish_195 : decode (mC m_M_publish) 195 = .ok (.bipush (96), 2) := by decide +kernel
theorem d_M_publish_197 : decode (mC m_M_publish) 197 = .ok (.iload_n 2, 1) := by decide +kernel
theorem d_M_publish_198 : decode (mC m_M_publish) 198 = .ok (.iadd, 1) := by decide +kernel
theorem d_M_publish_199 : decode (mC m_M_publish) 199 = .ok (.iaload, 1) := by decide +kernel
theorem d_M_publish_200 : decode (mC m_M_publish) 200 = .ok (.iastore, 1) := by decide +kernel
theorem d_M_publish_201 : decode (mC m_M_publish) 201 = .ok (.aload_n 0, 1) := by decide +kernel
theorem d_M_publish_202 : decode (mC m_M_publish) 202 = .ok (.getfield 41, 3) := by decide +kernel
theorem d_M_publish_205 : decode (mC m_M_publish) 205 = .ok (.iload_n 3, 1) := by decide +kernel
theorem d_M_publish_206 : decode (mC m_M_publish) 206 = .ok (.aload_n 0, 1) := by decide +kernel
theorem d_M_publish_207 : decode (mC m_M_publish) 207 = .ok (.getfield 41, 3) := by decide +kernel
theorem d_M_publish_210 : decode (mC m_M_publish) 210 = .ok (.bipush (96), 2) := by decide +kernel
theorem d_M_publish_212 : decode (mC m_M_publish) 212 = .ok (.iload_n 2, 1) := by decide +kernel
theorem d_M_publish_213 : decode (mC m_M_publish) 213 = .ok (.iadd, 1) := by decide +kernel
theorem d_M_publish_214 : decode (mC m_M_publish) 214 = .ok (.iaload, 1) := by decide +kernel
theorem d_M_publish_215 : decode (mC m_M_publish) 215 = .ok (.iastore, 1) := by decide +kernel
theorem d_M_publish_216 : decode (mC m_M_publish) 216 = .ok (.aload_n 0, 1) := by decide +kernel
theorem d_M_publish_217 : decode (mC m_M_publish) 217 = .ok (.getfield 44, 3) := by decide +kernel
theorem d_M_publish_220 : decode (mC m_M_publish) 220 = .ok (.iload_n 3, 1) := by decide +kernel
theorem d_M_publish_221 : decode (mC m_M_publish) 221 = .ok (.aload_n 0, 1) := by decide +kernel
theorem d_M_publish_222 : decode (mC m_M_publish) 222 = .ok (.getfield 44, 3) := by decide +kernel
theorem d_M_publish_225 : decode (mC m_M_publish) 225 = .ok (.bipush (96), 2) := by decide +kernel
theorem d_M_publish_227 : decode (mC m_M_publish) 227 = .ok (.iload_n 2, 1) := by decide +kernel
theorem d_M_publish_228 : decode (mC m_M_publish) 228 = .ok (.iadd, 1) := by decide +kernel
theorem d_M_publish_229 : decode (mC m_M_publish) 229 = .ok (.iaload, 1) := by decide +kernel
theorem d_M_publish_230 : decode (mC m_M_publish) 230 = .ok (.iastore, 1) := by decide +kernel
theorem d_M_publish_231 : decode (mC m_M_publish) 231 = .ok (.aload_n 0, 1) := by decide +kernel
theorem d_M_publish_232 : decode (mC m_M_publish) 232 = .ok (.getfield 47, 3) := by decide +kernel
theorem d_M_publish_235 : decode (mC m_M_publish) 235 = .ok (.iload_n 3, 1) := by decide +kernel
theorem d_M_publish_236 : decode (mC m_M_publish) 236 = .ok (.aload_n 0, 1) := by decide +kernel
theorem d_M_publish_237 : decode (mC m_M_publish) 237 = .ok (.getfield 47, 3) := by decide +kernel
theorem d_M_publish_240 : decode (mC m_M_publish) 240 = .ok (.bipush (96), 2) := by decide +kernel
theorem d_M_publish_242 : decode (mC m_M_publish) 242 = .ok (.iload_n 2, 1) := by decide +kernel
theorem d_M_publish_243 : decode (mC m_M_publish) 243 = .ok (.iadd, 1) := by decide +kernel
theorem d_M_publish_244 : decode (mC m_M_publish) 244 = .ok (.iaload, 1) := by decide +kernel
theorem d_M_publish_245 : decode (mC m_M_publish) 245 = .ok (.iastore, 1) := by decide +kernel
theorem d_M_publish_246 : decode (mC m_M_publish) 246 = .ok (.aload_n 0, 1) := by decide +kernel
theorem d_M_publish_247 : decode (mC m_M_publish) 247 = .ok (.getfield 50, 3) := by decide +kernel
theorem d_M_publish_250 : decode (mC m_M_publish) 250 = .ok (.iload_n 3, 1) := by decide +kernel
theorem d_M_publish_251 : decode (mC m_M_publish) 251 = .ok (.aload_n 0, 1) := by decide +kernel
theorem d_M_publish_252 : decode (mC m_M_publish) 252 = .ok (.getfield 50, 3) := by decide +kernel
theorem d_M_publish_255 : decode (mC m_M_publish) 255 = .ok (.bipush (96), 2) := by decide +kernel
theorem d_M_publish_257 : decode (mC m_M_publish) 257 = .ok (.iload_n 2, 1) := by decide +kernel
theorem d_M_publish_258 : decode (mC m_M_publish) 258 = .ok (.iadd, 1) := by decide +kernel
theorem d_M_publish_259 : decode (mC m_M_publish) 259 = .ok (.iaload, 1) := by decide +kernel
theorem d_M_publish_260 : decode (mC m_M_publish) 260 = .ok (.iastore, 1) := by decide +kernel
theorem d_M_publish_261 : decode (mC m_M_publish) 261 = .ok (.iinc 2 (1), 3) := by decide +kernel
theorem d_M_publish_264 : decode (mC m_M_publish) 264 = .ok (.goto (-99), 3) := by decide +kernel
theorem d_M_publish_267 : decode (mC m_M_publish) 267 = .ok (.aload_n 0, 1) := by decide +kernel
theorem d_M_publish_268 : decode (mC m_M_publish) 268 = .ok (.getfield 35, 3) := by decide +kernel
theorem d_M_publish_271 : decode (mC m_M_publish) 271 = .ok (.aload_n 0, 1) := by decide +kernel
theorem d_M_publish_272 : decode (mC m_M_publish) 272 = .ok (.getfield 303, 3) := by decide +kernel
theorem d_M_publish_275 : decode (mC m_M_publish) 275 = .ok (.aload_n 0, 1) := by decide +kernel
theorem d_M_publish_276 : decode (mC m_M_publish) 276 = .ok (.getfield 35, 3) := by decide +kernel
theorem d_M_publish_279 : decode (mC m_M_publish) 279 = .ok (.bipush (8), 2) := by decide +kernel
theorem d_M_publish_281 : decode (mC m_M_publish) 281 = .ok (.iaload, 1) := by decide +kernel
theorem d_M_publish_282 : decode (mC m_M_publish) 282 = .ok (.iastore, 1) := by decide +kernel
theorem d_M_publish_283 : decode (mC m_M_publish) 283 = .ok (.aload_n 0, 1) := by decide +kernel
theorem d_M_publish_284 : decode (mC m_M_publish) 284 = .ok (.getfield 35, 3) := by decide +kernel
theorem d_M_publish_287 : decode (mC m_M_publish) 287 = .ok (.bipush (8), 2) := by decide +kernel
theorem d_M_publish_289 : decode (mC m_M_publish) 289 = .ok (.iconst 0, 1) := by decide +kernel
theorem d_M_publish_290 : decode (mC m_M_publish) 290 = .ok (.iastore, 1) := by decide +kernel
theorem d_M_publish_291 : decode (mC m_M_publish) 291 = .ok (.aload_n 0, 1) := by decide +kernel
theorem d_M_publish_292 : decode (mC m_M_publish) 292 = .ok (.dup, 1) := by decide +kernel
theorem d_M_publish_293 : decode (mC m_M_publish) 293 = .ok (.getfield 303, 3) := by decide +kernel
theorem d_M_publish_296 : decode (mC m_M_publish) 296 = .ok (.iconst 1, 1) := by decide +kernel
theorem d_M_publish_297 : decode (mC m_M_publish) 297 = .ok (.iadd, 1) := by decide +kernel
theorem d_M_publish_298 : decode (mC m_M_publish) 298 = .ok (.putfield 303, 3) := by decide +kernel
theorem d_M_publish_301 : decode (mC m_M_publish) 301 = .ok (.aload_n 0, 1) := by decide +kernel
theorem d_M_publish_302 : decode (mC m_M_publish) 302 = .ok (.getfield 303, 3) := by decide +kernel
theorem d_M_publish_305 : decode (mC m_M_publish) 305 = .ok (.iconst 1, 1) := by decide +kernel
theorem d_M_publish_306 : decode (mC m_M_publish) 306 = .ok (.isub, 1) := by decide +kernel
theorem d_M_publish_307 : decode (mC m_M_publish) 307 = .ok (.ireturn, 1) := by decide +kernel
theorem d_K_requireIndex_0 : decode (mC m_K_requireIndex) 0 = .ok (.iload_n 0, 1) := by decide +kernel
theorem d_K_requireIndex_1 : decode (mC m_K_requireIndex) 1 = .ok (.ifCond .lt (8), 3) := by decide +kernel
theorem d_K_requireIndex_4 : decode (mC m_K_requireIndex) 4 = .ok (.iload_n 0, 1) := by decide +kernel
theorem d_K_requireIndex_5 : decode (mC m_K_requireIndex) 5 = .ok (.iload_n 1, 1) := by decide +kernel
theorem d_K_requireIndex_6 : decode (mC m_K_requireIndex) 6 = .ok (.if_icmp .lt (11), 3) := by decide +kernel
theorem d_K_requireIndex_9 : decode (mC m_K_requireIndex) 9 = .ok (.new 444, 3) := by decide +kernel
theorem d_K_requireIndex_12 : decode (mC m_K_requireIndex) 12 = .ok (.dup, 1) := by decide +kernel
theorem d_K_requireIndex_13 : decode (mC m_K_requireIndex) 13 = .ok (.invokespecial 446, 3) := by decide +kernel
theorem d_K_requireIndex_16 : decode (mC m_K_requireIndex) 16 = .ok (.athrow, 1) := by decide +kernel
theorem d_K_requireIndex_17 : decode (mC m_K_requireIndex) 17 = .ok (.return_, 1) := by decide +kernel
theorem d_Flow_firstOf_0 : decode (mC m_Flow_firstOf) 0 = .ok (.aload_n 0, 1) := by decide +kernel
theorem d_Flow_firstOf_1 : decode (mC m_Flow_firstOf) 1 = .ok (.iload_n 1, 1) := by decide +kernel
theorem d_Flow_firstOf_2 : decode (mC m_Flow_firstOf) 2 = .ok (.invokevirtual 31, 3) := by decide +kernel
theorem d_Flow_firstOf_5 : decode (mC m_Flow_firstOf) 5 = .ok (.ifCond .eq (12), 3) := by decide +kernel
theorem d_Flow_firstOf_8 : decode (mC m_Flow_firstOf) 8 = .ok (.aload_n 0, 1) := by decide +kernel
theorem d_Flow_firstOf_9 : decode (mC m_Flow_firstOf) 9 = .ok (.getfield 15, 3) := by decide +kernel
theorem d_Flow_firstOf_12 : decode (mC m_Flow_firstOf) 12 = .ok (.iload_n 1, 1) := by decide +kernel
theorem d_Flow_firstOf_13 : decode (mC m_Flow_firstOf) 13 = .ok (.iaload, 1) := by decide +kernel
theorem d_Flow_firstOf_14 : decode (mC m_Flow_firstOf) 14 = .ok (.goto (4), 3) := by decide +kernel
theorem d_Flow_firstOf_17 : decode (mC m_Flow_firstOf) 17 = .ok (.iconst 0, 1) := by decide +kernel
theorem d_Flow_firstOf_18 : decode (mC m_Flow_firstOf) 18 = .ok (.ireturn, 1) := by decide +kernel
theorem d_Shown_weightOf_0 : decode (mC m_Shown_weightOf) 0 = .ok (.iload_n 0, 1) := by decide +kernel
theorem d_Shown_weightOf_1 : decode (mC m_Shown_weightOf) 1 = .ok (.invokestatic 15, 3) := by decide +kernel
theorem d_Shown_weightOf_4 : decode (mC m_Shown_weightOf) 4 = .ok (.ifCond .eq (11), 3) := by decide +kernel
theorem d_Shown_weightOf_7 : decode (mC m_Shown_weightOf) 7 = .ok (.getstatic 19, 3) := by decide +kernel
theorem d_Shown_weightOf_10 : decode (mC m_Shown_weightOf) 10 = .ok (.iload_n 0, 1) := by decide +kernel
theorem d_Shown_weightOf_11 : decode (mC m_Shown_weightOf) 11 = .ok (.iaload, 1) := by decide +kernel
theorem d_Shown_weightOf_12 : decode (mC m_Shown_weightOf) 12 = .ok (.goto (4), 3) := by decide +kernel
theorem d_Shown_weightOf_15 : decode (mC m_Shown_weightOf) 15 = .ok (.iconst 0, 1) := by decide +kernel
theorem d_Shown_weightOf_16 : decode (mC m_Shown_weightOf) 16 = .ok (.ireturn, 1) := by decide +kernel
theorem d_Shown_levelOfSet_0 : decode (mC m_Shown_levelOfSet) 0 = .ok (.iconst 0, 1) := by decide +kernel
theorem d_Shown_levelOfSet_1 : decode (mC m_Shown_levelOfSet) 1 = .ok (.istore_n 1, 1) := by decide +kernel
theorem d_Shown_levelOfSet_2 : decode (mC m_Shown_levelOfSet) 2 = .ok (.iconst 0, 1) := by decide +kernel
theorem d_Shown_levelOfSet_3 : decode (mC m_Shown_levelOfSet) 3 = .ok (.istore_n 2, 1) := by decide +kernel
theorem d_Shown_levelOfSet_4 : decode (mC m_Shown_levelOfSet) 4 = .ok (.iload_n 2, 1) := by decide +kernel
theorem d_Shown_levelOfSet_5 : decode (mC m_Shown_levelOfSet) 5 = .ok (.iconst 3, 1) := by decide +kernel
theorem d_Shown_levelOfSet_6 : decode (mC m_Shown_levelOfSet) 6 = .ok (.if_icmp .ge (24), 3) := by decide +kernel
theorem d_Shown_levelOfSet_9 : decode (mC m_Shown_levelOfSet) 9 = .ok (.iload_n 2, 1) := by decide +kernel
theorem d_Shown_levelOfSet_10 : decode (mC m_Shown_levelOfSet) 10 = .ok (.iload_n 0, 1) := by decide +kernel
theorem d_Shown_levelOfSet_11 : decode (mC m_Shown_levelOfSet) 11 = .ok (.invokestatic 22, 3) := by decide +kernel
theorem d_Shown_levelOfSet_14 : decode (mC m_Shown_levelOfSet) 14 = .ok (.ifCond .eq (10), 3) := by decide +kernel
theorem d_Shown_levelOfSet_17 : decode (mC m_Shown_levelOfSet) 17 = .ok (.iload_n 1, 1) := by decide +kernel
theorem d_Shown_levelOfSet_18 : decode (mC m_Shown_levelOfSet) 18 = .ok (.iload_n 2, 1) := by decide +kernel
theorem d_Shown_levelOfSet_19 : decode (mC m_Shown_levelOfSet) 19 = .ok (.invokestatic 26, 3) := by decide +kernel
theorem d_Shown_levelOfSet_22 : decode (mC m_Shown_levelOfSet) 22 = .ok (.iadd, 1) := by decide +kernel
theorem d_Shown_levelOfSet_23 : decode (mC m_Shown_levelOfSet) 23 = .ok (.istore_n 1, 1) := by decide +kernel
theorem d_Shown_levelOfSet_24 : decode (mC m_Shown_levelOfSet) 24 = .ok (.iinc 2 (1), 3) := by decide +kernel
theorem d_Shown_levelOfSet_27 : decode (mC m_Shown_levelOfSet) 27 = .ok (.goto (-23), 3) := by decide +kernel
theorem d_Shown_levelOfSet_30 : decode (mC m_Shown_levelOfSet) 30 = .ok (.iload_n 1, 1) := by decide +kernel
theorem d_Shown_levelOfSet_31 : decode (mC m_Shown_levelOfSet) 31 = .ok (.ireturn, 1) := by decide +kernel
theorem d_Flow_setBehindYes_0 : decode (mC m_Flow_setBehindYes) 0 = .ok (.aload_n 0, 1) := by decide +kernel
theorem d_Flow_setBehindYes_1 : decode (mC m_Flow_setBehindYes) 1 = .ok (.iload_n 1, 1) := by decide +kernel
theorem d_Flow_setBehindYes_2 : decode (mC m_Flow_setBehindYes) 2 = .ok (.invokevirtual 35, 3) := by decide +kernel
theorem d_Flow_setBehindYes_5 : decode (mC m_Flow_setBehindYes) 5 = .ok (.ifCond .ne (13), 3) := by decide +kernel
theorem d_Flow_setBehindYes_8 : decode (mC m_Flow_setBehindYes) 8 = .ok (.iload_n 2, 1) := by decide +kernel
theorem d_Flow_setBehindYes_9 : decode (mC m_Flow_setBehindYes) 9 = .ok (.iconst 1, 1) := by decide +kernel
theorem d_Flow_setBehindYes_10 : decode (mC m_Flow_setBehindYes) 10 = .ok (.aload_n 0, 1) := by decide +kernel
theorem d_Flow_setBehindYes_11 : decode (mC m_Flow_setBehindYes) 11 = .ok (.iload_n 1, 1) := by decide +kernel
theorem d_Flow_setBehindYes_12 : decode (mC m_Flow_setBehindYes) 12 = .ok (.invokevirtual 81, 3) := by decide +kernel
theorem d_Flow_setBehindYes_15 : decode (mC m_Flow_setBehindYes) 15 = .ok (.ishl, 1) := by decide +kernel
theorem d_Flow_setBehindYes_16 : decode (mC m_Flow_setBehindYes) 16 = .ok (.ior, 1) := by decide +kernel
theorem d_Flow_setBehindYes_17 : decode (mC m_Flow_setBehindYes) 17 = .ok (.ireturn, 1) := by decide +kernel
theorem d_Flow_setBehindYes_18 : decode (mC m_Flow_setBehindYes) 18 = .ok (.aload_n 0, 1) := by decide +kernel
theorem d_Flow_setBehindYes_19 : decode (mC m_Flow_setBehindYes) 19 = .ok (.iload_n 1, 1) := by decide +kernel
theorem d_Flow_setBehindYes_20 : decode (mC m_Flow_setBehindYes) 20 = .ok (.invokevirtual 35, 3) := by decide +kernel
theorem d_Flow_setBehindYes_23 : decode (mC m_Flow_setBehindYes) 23 = .ok (.iconst 4, 1) := by decide +kernel
theorem d_Flow_setBehindYes_24 : decode (mC m_Flow_setBehindYes) 24 = .ok (.if_icmp .ne (19), 3) := by decide +kernel
theorem d_Flow_setBehindYes_27 : decode (mC m_Flow_setBehindYes) 27 = .ok (.iload_n 2, 1) := by decide +kernel
theorem d_Flow_setBehindYes_28 : decode (mC m_Flow_setBehindYes) 28 = .ok (.invokestatic 84, 3) := by decide +kernel
theorem d_Flow_setBehindYes_31 : decode (mC m_Flow_setBehindYes) 31 = .ok (.aload_n 0, 1) := by decide +kernel
theorem d_Flow_setBehindYes_32 : decode (mC m_Flow_setBehindYes) 32 = .ok (.iload_n 1, 1) := by decide +kernel
theorem d_Flow_setBehindYes_33 : decode (mC m_Flow_setBehindYes) 33 = .ok (.invokevirtual 81, 3) := by decide +kernel
theorem d_Flow_setBehindYes_36 : decode (mC m_Flow_setBehindYes) 36 = .ok (.if_icmp .ge (7), 3) := by decide +kernel
theorem d_Flow_setBehindYes_39 : decode (mC m_Flow_setBehindYes) 39 = .ok (.iconst (-1), 1) := by decide +kernel
theorem d_Flow_setBehindYes_40 : decode (mC m_Flow_setBehindYes) 40 = .ok (.goto (4), 3) := by decide +kernel
theorem d_Flow_setBehindYes_43 : decode (mC m_Flow_setBehindYes) 43 = .ok (.iload_n 2, 1) := by decide +kernel
theorem d_Flow_setBehindYes_44 : decode (mC m_Flow_setBehindYes) 44 = .ok (.ireturn, 1) := by decide +kernel
theorem d_Flow_reach_0 : decode (mC m_Flow_reach) 0 = .ok (.iload_n 0, 1) := by decide +kernel
theorem d_Flow_reach_1 : decode (mC m_Flow_reach) 1 = .ok (.ifCond .lt (24), 3) := by decide +kernel
theorem d_Flow_reach_4 : decode (mC m_Flow_reach) 4 = .ok (.iload_n 0, 1) := by decide +kernel
theorem d_Flow_reach_5 : decode (mC m_Flow_reach) 5 = .ok (.aload_n 2, 1) := by decide +kernel
theorem d_Flow_reach_6 : decode (mC m_Flow_reach) 6 = .ok (.arraylength, 1) := by decide +kernel
theorem d_Flow_reach_7 : decode (mC m_Flow_reach) 7 = .ok (.if_icmp .ge (18), 3) := by decide +kernel
theorem d_Flow_reach_10 : decode (mC m_Flow_reach) 10 = .ok (.iload_n 1, 1) := by decide +kernel
theorem d_Flow_reach_11 : decode (mC m_Flow_reach) 11 = .ok (.iconst (-1), 1) := by decide +kernel
theorem d_Flow_reach_12 : decode (mC m_Flow_reach) 12 = .ok (.if_icmp .eq (13), 3) := by decide +kernel
theorem d_Flow_reach_15 : decode (mC m_Flow_reach) 15 = .ok (.iload_n 1, 1) := by decide +kernel
theorem d_Flow_reach_16 : decode (mC m_Flow_reach) 16 = .ok (.aload_n 2, 1) := by decide +kernel
theorem d_Flow_reach_17 : decode (mC m_Flow_reach) 17 = .ok (.iload_n 0, 1) := by decide +kernel
theorem d_Flow_reach_18 : decode (mC m_Flow_reach) 18 = .ok (.iaload, 1) := by decide +kernel
theorem d_Flow_reach_19 : decode (mC m_Flow_reach) 19 = .ok (.invokestatic 57, 3) := by decide +kernel
theorem d_Flow_reach_22 : decode (mC m_Flow_reach) 22 = .ok (.ifCond .eq (5), 3) := by decide +kernel
theorem d_Flow_reach_25 : decode (mC m_Flow_reach) 25 = .ok (.iconst 0, 1) := by decide +kernel
theorem d_Flow_reach_26 : decode (mC m_Flow_reach) 26 = .ok (.ireturn, 1) := by decide +kernel
theorem d_Flow_reach_27 : decode (mC m_Flow_reach) 27 = .ok (.aload_n 2, 1) := by decide +kernel
theorem d_Flow_reach_28 : decode (mC m_Flow_reach) 28 = .ok (.iload_n 0, 1) := by decide +kernel
theorem d_Flow_reach_29 : decode (mC m_Flow_reach) 29 = .ok (.dup2, 1) := by decide +kernel
theorem d_Flow_reach_30 : decode (mC m_Flow_reach) 30 = .ok (.iaload, 1) := by decide +kernel
theorem d_Flow_reach_31 : decode (mC m_Flow_reach) 31 = .ok (.iconst 1, 1) := by decide +kernel
theorem d_Flow_reach_32 : decode (mC m_Flow_reach) 32 = .ok (.iload_n 1, 1) := by decide +kernel
theorem d_Flow_reach_33 : decode (mC m_Flow_reach) 33 = .ok (.ishl, 1) := by decide +kernel
theorem d_Flow_reach_34 : decode (mC m_Flow_reach) 34 = .ok (.ior, 1) := by decide +kernel
theorem d_Flow_reach_35 : decode (mC m_Flow_reach) 35 = .ok (.iastore, 1) := by decide +kernel
theorem d_Flow_reach_36 : decode (mC m_Flow_reach) 36 = .ok (.iconst 1, 1) := by decide +kernel
theorem d_Flow_reach_37 : decode (mC m_Flow_reach) 37 = .ok (.ireturn, 1) := by decide +kernel
theorem d_Flow_setBehindNo_0 : decode (mC m_Flow_setBehindNo) 0 = .ok (.aload_n 0, 1) := by decide +kernel
theorem d_Flow_setBehindNo_1 : decode (mC m_Flow_setBehindNo) 1 = .ok (.iload_n 1, 1) := by decide +kernel
theorem d_Flow_setBehindNo_2 : decode (mC m_Flow_setBehindNo) 2 = .ok (.invokevirtual 35, 3) := by decide +kernel
theorem d_Flow_setBehindNo_5 : decode (mC m_Flow_setBehindNo) 5 = .ok (.iconst 4, 1) := by decide +kernel
theorem d_Flow_setBehindNo_6 : decode (mC m_Flow_setBehindNo) 6 = .ok (.if_icmp .ne (19), 3) := by decide +kernel
theorem d_Flow_setBehindNo_9 : decode (mC m_Flow_setBehindNo) 9 = .ok (.iload_n 2, 1) := by decide +kernel
theorem d_Flow_setBehindNo_10 : decode (mC m_Flow_setBehindNo) 10 = .ok (.invokestatic 84, 3) := by decide +kernel
theorem d_Flow_setBehindNo_13 : decode (mC m_Flow_setBehindNo) 13 = .ok (.aload_n 0, 1) := by decide +kernel
theorem d_Flow_setBehindNo_14 : decode (mC m_Flow_setBehindNo) 14 = .ok (.iload_n 1, 1) := by decide +kernel
theorem d_Flow_setBehindNo_15 : decode (mC m_Flow_setBehindNo) 15 = .ok (.invokevirtual 81, 3) := by decide +kernel
theorem d_Flow_setBehindNo_18 : decode (mC m_Flow_setBehindNo) 18 = .ok (.if_icmp .lt (7), 3) := by decide +kernel
theorem d_Flow_setBehindNo_21 : decode (mC m_Flow_setBehindNo) 21 = .ok (.iconst (-1), 1) := by decide +kernel
theorem d_Flow_setBehindNo_22 : decode (mC m_Flow_setBehindNo) 22 = .ok (.goto (4), 3) := by decide +kernel
theorem d_Flow_setBehindNo_25 : decode (mC m_Flow_setBehindNo) 25 = .ok (.iload_n 2, 1) := by decide +kernel
theorem d_Flow_setBehindNo_26 : decode (mC m_Flow_setBehindNo) 26 = .ok (.ireturn, 1) := by decide +kernel
theorem d_Flow_spread_0 : decode (mC m_Flow_spread) 0 = .ok (.iconst 0, 1) := by decide +kernel
theorem d_Flow_spread_1 : decode (mC m_Flow_spread) 1 = .ok (.istore_n 3, 1) := by decide +kernel
theorem d_Flow_spread_2 : decode (mC m_Flow_spread) 2 = .ok (.aload_n 0, 1) := by decide +kernel
theorem d_Flow_spread_3 : decode (mC m_Flow_spread) 3 = .ok (.iload_n 1, 1) := by decide +kernel
theorem d_Flow_spread_4 : decode (mC m_Flow_spread) 4 = .ok (.invokevirtual 35, 3) := by decide +kernel
theorem d_Flow_spread_7 : decode (mC m_Flow_spread) 7 = .ok (.iconst 5, 1) := by decide +kernel
theorem d_Flow_spread_8 : decode (mC m_Flow_spread) 8 = .ok (.if_icmp .ge (9), 3) := by decide +kernel
theorem d_Flow_spread_11 : decode (mC m_Flow_spread) 11 = .ok (.iload_n 1, 1) := by decide +kernel
theorem d_Flow_spread_12 : decode (mC m_Flow_spread) 12 = .ok (.aload_n 2, 1) := by decide +kernel
theorem d_Flow_spread_13 : decode (mC m_Flow_spread) 13 = .ok (.arraylength, 1) := by decide +kernel
theorem d_Flow_spread_14 : decode (mC m_Flow_spread) 14 = .ok (.if_icmp .lt (5), 3) := by decide +kernel
theorem d_Flow_spread_17 : decode (mC m_Flow_spread) 17 = .ok (.iconst 0, 1) := by decide +kernel
theorem d_Flow_spread_18 : decode (mC m_Flow_spread) 18 = .ok (.ireturn, 1) := by decide +kernel
theorem d_Flow_spread_19 : decode (mC m_Flow_spread) 19 = .ok (.iconst 0, 1) := by decide +kernel
theorem d_Flow_spread_20 : decode (mC m_Flow_spread) 20 = .ok (.istore 4, 2) := by decide +kernel
theorem d_Flow_spread_22 : decode (mC m_Flow_spread) 22 = .ok (.iload 4, 2) := by decide +kernel
theorem d_Flow_spread_24 : decode (mC m_Flow_spread) 24 = .ok (.bipush (8), 2) := by decide +kernel
theorem d_Flow_spread_26 : decode (mC m_Flow_spread) 26 = .ok (.if_icmp .ge (60), 3) := by decide +kernel
theorem d_Flow_spread_29 : decode (mC m_Flow_spread) 29 = .ok (.iload 4, 2) := by decide +kernel
theorem d_Flow_spread_31 : decode (mC m_Flow_spread) 31 = .ok (.aload_n 2, 1) := by decide +kernel
theorem d_Flow_spread_32 : decode (mC m_Flow_spread) 32 = .ok (.iload_n 1, 1) := by decide +kernel
theorem d_Flow_spread_33 : decode (mC m_Flow_spread) 33 = .ok (.iaload, 1) := by decide +kernel
theorem d_Flow_spread_34 : decode (mC m_Flow_spread) 34 = .ok (.invokestatic 57, 3) := by decide +kernel
theorem d_Flow_spread_37 : decode (mC m_Flow_spread) 37 = .ok (.ifCond .eq (43), 3) := by decide +kernel
theorem d_Flow_spread_40 : decode (mC m_Flow_spread) 40 = .ok (.iload_n 3, 1) := by decide +kernel
theorem d_Flow_spread_41 : decode (mC m_Flow_spread) 41 = .ok (.aload_n 0, 1) := by decide +kernel
theorem d_Flow_spread_42 : decode (mC m_Flow_spread) 42 = .ok (.iload_n 1, 1) := by decide +kernel
theorem d_Flow_spread_43 : decode (mC m_Flow_spread) 43 = .ok (.iconst 1, 1) := by decide +kernel
theorem d_Flow_spread_44 : decode (mC m_Flow_spread) 44 = .ok (.invokevirtual 43, 3) := by decide +kernel
theorem d_Flow_spread_47 : decode (mC m_Flow_spread) 47 = .ok (.aload_n 0, 1) := by decide +kernel
theorem d_Flow_spread_48 : decode (mC m_Flow_spread) 48 = .ok (.iload_n 1, 1) := by decide +kernel
theorem d_Flow_spread_49 : decode (mC m_Flow_spread) 49 = .ok (.iload 4, 2) := by decide +kernel
theorem d_Flow_spread_51 : decode (mC m_Flow_spread) 51 = .ok (.invokevirtual 71, 3) := by decide +kernel
theorem d_Flow_spread_54 : decode (mC m_Flow_spread) 54 = .ok (.aload_n 2, 1) := by decide +kernel
theorem d_Flow_spread_55 : decode (mC m_Flow_spread) 55 = .ok (.invokestatic 74, 3) := by decide +kernel
theorem d_Flow_spread_58 : decode (mC m_Flow_spread) 58 = .ok (.ior, 1) := by decide +kernel
theorem d_Flow_spread_59 : decode (mC m_Flow_spread) 59 = .ok (.istore_n 3, 1) := by decide +kernel
theorem d_Flow_spread_60 : decode (mC m_Flow_spread) 60 = .ok (.iload_n 3, 1) := by decide +kernel
theorem d_Flow_spread_61 : decode (mC m_Flow_spread) 61 = .ok (.aload_n 0, 1) := by decide +kernel
theorem d_Flow_spread_62 : decode (mC m_Flow_spread) 62 = .ok (.iload_n 1, 1) := by decide +kernel
theorem d_Flow_spread_63 : decode (mC m_Flow_spread) 63 = .ok (.iconst 0, 1) := by decide +kernel
theorem d_Flow_spread_64 : decode (mC m_Flow_spread) 64 = .ok (.invokevirtual 43, 3) := by decide +kernel
theorem d_Flow_spread_67 : decode (mC m_Flow_spread) 67 = .ok (.aload_n 0, 1) := by decide +kernel
theorem d_Flow_spread_68 : decode (mC m_Flow_spread) 68 = .ok (.iload_n 1, 1) := by decide +kernel
theorem d_Flow_spread_69 : decode (mC m_Flow_spread) 69 = .ok (.iload 4, 2) := by decide +kernel
theorem d_Flow_spread_71 : decode (mC m_Flow_spread) 71 = .ok (.invokevirtual 78, 3) := by decide +kernel
theorem d_Flow_spread_74 : decode (mC m_Flow_spread) 74 = .ok (.aload_n 2, 1) := by decide +kernel
theorem d_Flow_spread_75 : decode (mC m_Flow_spread) 75 = .ok (.invokestatic 74, 3) := by decide +kernel
theorem d_Flow_spread_78 : decode (mC m_Flow_spread) 78 = .ok (.ior, 1) := by decide +kernel
theorem d_Flow_spread_79 : decode (mC m_Flow_spread) 79 = .ok (.istore_n 3, 1) := by decide +kernel
theorem d_Flow_spread_80 : decode (mC m_Flow_spread) 80 = .ok (.iinc 4 (1), 3) := by decide +kernel
theorem d_Flow_spread_83 : decode (mC m_Flow_spread) 83 = .ok (.goto (-61), 3) := by decide +kernel
theorem d_Flow_spread_86 : decode (mC m_Flow_spread) 86 = .ok (.iload_n 3, 1) := by decide +kernel
theorem d_Flow_spread_87 : decode (mC m_Flow_spread) 87 = .ok (.ireturn, 1) := by decide +kernel
theorem d_Flow_weaker_0 : decode (mC m_Flow_weaker) 0 = .ok (.iload_n 0, 1) := by decide +kernel
theorem d_Flow_weaker_1 : decode (mC m_Flow_weaker) 1 = .ok (.iconst (-1), 1) := by decide +kernel
theorem d_Flow_weaker_2 : decode (mC m_Flow_weaker) 2 = .ok (.if_icmp .eq (8), 3) := by decide +kernel
theorem d_Flow_weaker_5 : decode (mC m_Flow_weaker) 5 = .ok (.iload_n 1, 1) := by decide +kernel
theorem d_Flow_weaker_6 : decode (mC m_Flow_weaker) 6 = .ok (.iconst (-1), 1) := by decide +kernel
theorem d_Flow_weaker_7 : decode (mC m_Flow_weaker) 7 = .ok (.if_icmp .ne (9), 3) := by decide +kernel
theorem d_Flow_weaker_10 : decode (mC m_Flow_weaker) 10 = .ok (.iload_n 0, 1) := by decide +kernel
theorem d_Flow_weaker_11 : decode (mC m_Flow_weaker) 11 = .ok (.iload_n 1, 1) := by decide +kernel
theorem d_Flow_weaker_12 : decode (mC m_Flow_weaker) 12 = .ok (.invokestatic 89, 3) := by decide +kernel
theorem d_Flow_weaker_15 : decode (mC m_Flow_weaker) 15 = .ok (.ireturn, 1) := by decide +kernel
theorem d_Flow_weaker_16 : decode (mC m_Flow_weaker) 16 = .ok (.iload_n 0, 1) := by decide +kernel
theorem d_Flow_weaker_17 : decode (mC m_Flow_weaker) 17 = .ok (.iload_n 1, 1) := by decide +kernel
theorem d_Flow_weaker_18 : decode (mC m_Flow_weaker) 18 = .ok (.invokestatic 94, 3) := by decide +kernel
theorem d_Flow_weaker_21 : decode (mC m_Flow_weaker) 21 = .ok (.ireturn, 1) := by decide +kernel
theorem d_Flow_leastLevel_0 : decode (mC m_Flow_leastLevel) 0 = .ok (.iconst (-1), 1) := by decide +kernel
theorem d_Flow_leastLevel_1 : decode (mC m_Flow_leastLevel) 1 = .ok (.istore_n 1, 1) := by decide +kernel
theorem d_Flow_leastLevel_2 : decode (mC m_Flow_leastLevel) 2 = .ok (.iconst 0, 1) := by decide +kernel
theorem d_Flow_leastLevel_3 : decode (mC m_Flow_leastLevel) 3 = .ok (.istore_n 2, 1) := by decide +kernel
theorem d_Flow_leastLevel_4 : decode (mC m_Flow_leastLevel) 4 = .ok (.iload_n 2, 1) := by decide +kernel
theorem d_Flow_leastLevel_5 : decode (mC m_Flow_leastLevel) 5 = .ok (.bipush (8), 2) := by decide +kernel
theorem d_Flow_leastLevel_7 : decode (mC m_Flow_leastLevel) 7 = .ok (.if_icmp .ge (26), 3) := by decide +kernel
theorem d_Flow_leastLevel_10 : decode (mC m_Flow_leastLevel) 10 = .ok (.iload_n 2, 1) := by decide +kernel
theorem d_Flow_leastLevel_11 : decode (mC m_Flow_leastLevel) 11 = .ok (.iload_n 0, 1) := by decide +kernel
theorem d_Flow_leastLevel_12 : decode (mC m_Flow_leastLevel) 12 = .ok (.invokestatic 57, 3) := by decide +kernel
theorem d_Flow_leastLevel_15 : decode (mC m_Flow_leastLevel) 15 = .ok (.ifCond .eq (12), 3) := by decide +kernel
theorem d_Flow_leastLevel_18 : decode (mC m_Flow_leastLevel) 18 = .ok (.iload_n 1, 1) := by decide +kernel
theorem d_Flow_leastLevel_19 : decode (mC m_Flow_leastLevel) 19 = .ok (.iload_n 2, 1) := by decide +kernel
theorem d_Flow_leastLevel_20 : decode (mC m_Flow_leastLevel) 20 = .ok (.invokestatic 84, 3) := by decide +kernel
theorem d_Flow_leastLevel_23 : decode (mC m_Flow_leastLevel) 23 = .ok (.invokestatic 67, 3) := by decide +kernel
theorem d_Flow_leastLevel_26 : decode (mC m_Flow_leastLevel) 26 = .ok (.istore_n 1, 1) := by decide +kernel
theorem d_Flow_leastLevel_27 : decode (mC m_Flow_leastLevel) 27 = .ok (.iinc 2 (1), 3) := by decide +kernel
theorem d_Flow_leastLevel_30 : decode (mC m_Flow_leastLevel) 30 = .ok (.goto (-26), 3) := by decide +kernel
theorem d_Flow_leastLevel_33 : decode (mC m_Flow_leastLevel) 33 = .ok (.iload_n 1, 1) := by decide +kernel
theorem d_Flow_leastLevel_34 : decode (mC m_Flow_leastLevel) 34 = .ok (.ireturn, 1) := by decide +kernel
theorem d_Flow_weakestLevel_0 : decode (mC m_Flow_weakestLevel) 0 = .ok (.bipush (12), 2) := by decide +kernel
theorem d_Flow_weakestLevel_2 : decode (mC m_Flow_weakestLevel) 2 = .ok (.newarray .int, 2) := by decide +kernel
theorem d_Flow_weakestLevel_4 : decode (mC m_Flow_weakestLevel) 4 = .ok (.astore_n 1, 1) := by decide +kernel
theorem d_Flow_weakestLevel_5 : decode (mC m_Flow_weakestLevel) 5 = .ok (.aload_n 1, 1) := by decide +kernel
theorem d_Flow_weakestLevel_6 : decode (mC m_Flow_weakestLevel) 6 = .ok (.iconst 0, 1) := by decide +kernel
theorem d_Flow_weakestLevel_7 : decode (mC m_Flow_weakestLevel) 7 = .ok (.iconst 1, 1) := by decide +kernel
theorem d_Flow_weakestLevel_8 : decode (mC m_Flow_weakestLevel) 8 = .ok (.iastore, 1) := by decide +kernel
theorem d_Flow_weakestLevel_9 : decode (mC m_Flow_weakestLevel) 9 = .ok (.iconst 1, 1) := by decide +kernel
theorem d_Flow_weakestLevel_10 : decode (mC m_Flow_weakestLevel) 10 = .ok (.istore_n 2, 1) := by decide +kernel
theorem d_Flow_weakestLevel_11 : decode (mC m_Flow_weakestLevel) 11 = .ok (.iconst 0, 1) := by decide +kernel
theorem d_Flow_weakestLevel_12 : decode (mC m_Flow_weakestLevel) 12 = .ok (.istore_n 3, 1) := by decide +kernel
theorem d_Flow_weakestLevel_13 : decode (mC m_Flow_weakestLevel) 13 = .ok (.iload_n 3, 1) := by decide +kernel
theorem d_Flow_weakestLevel_14 : decode (mC m_Flow_weakestLevel) 14 = .ok (.bipush (96), 2) := by decide +kernel
theorem d_Flow_weakestLevel_16 : decode (mC m_Flow_weakestLevel) 16 = .ok (.if_icmp .ge (50), 3) := by decide +kernel
theorem d_Flow_weakestLevel_19 : decode (mC m_Flow_weakestLevel) 19 = .ok (.iload_n 2, 1) := by decide +kernel
theorem d_Flow_weakestLevel_20 : decode (mC m_Flow_weakestLevel) 20 = .ok (.ifCond .eq (46), 3) := by decide +kernel
theorem d_Flow_weakestLevel_23 : decode (mC m_Flow_weakestLevel) 23 = .ok (.iconst 0, 1) := by decide +kernel
theorem d_Flow_weakestLevel_24 : decode (mC m_Flow_weakestLevel) 24 = .ok (.istore_n 2, 1) := by decide +kernel
theorem d_Flow_weakestLevel_25 : decode (mC m_Flow_weakestLevel) 25 = .ok (.iconst 0, 1) := by decide +kernel
theorem d_Flow_weakestLevel_26 : decode (mC m_Flow_weakestLevel) 26 = .ok (.istore 4, 2) := by decide +kernel
theorem d_Flow_weakestLevel_28 : decode (mC m_Flow_weakestLevel) 28 = .ok (.iload 4, 2) := by decide +kernel
theorem d_Flow_weakestLevel_30 : decode (mC m_Flow_weakestLevel) 30 = .ok (.aload_n 0, 1) := by decide +kernel
theorem d_Flow_weakestLevel_31 : decode (mC m_Flow_weakestLevel) 31 = .ok (.getfield 27, 3) := by decide +kernel
theorem d_Flow_weakestLevel_34 : decode (mC m_Flow_weakestLevel) 34 = .ok (.if_icmp .ge (26), 3) := by decide +kernel
theorem d_Flow_weakestLevel_37 : decode (mC m_Flow_weakestLevel) 37 = .ok (.iload 4, 2) := by decide +kernel
theorem d_Flow_weakestLevel_39 : decode (mC m_Flow_weakestLevel) 39 = .ok (.bipush (12), 2) := by decide +kernel
theorem d_Flow_weakestLevel_41 : decode (mC m_Flow_weakestLevel) 41 = .ok (.if_icmp .ge (19), 3) := by decide +kernel
theorem d_Flow_weakestLevel_44 : decode (mC m_Flow_weakestLevel) 44 = .ok (.iload_n 2, 1) := by decide +kernel
theorem d_Flow_weakestLevel_45 : decode (mC m_Flow_weakestLevel) 45 = .ok (.aload_n 0, 1) := by decide +kernel
theorem d_Flow_weakestLevel_46 : decode (mC m_Flow_weakestLevel) 46 = .ok (.iload 4, 2) := by decide +kernel
theorem d_Flow_weakestLevel_48 : decode (mC m_Flow_weakestLevel) 48 = .ok (.aload_n 1, 1) := by decide +kernel
theorem d_Flow_weakestLevel_49 : decode (mC m_Flow_weakestLevel) 49 = .ok (.invokevirtual 60, 3) := by decide +kernel
theorem d_Flow_weakestLevel_52 : decode (mC m_Flow_weakestLevel) 52 = .ok (.ior, 1) := by decide +kernel
theorem d_Flow_weakestLevel_53 : decode (mC m_Flow_weakestLevel) 53 = .ok (.istore_n 2, 1) := by decide +kernel
theorem d_Flow_weakestLevel_54 : decode (mC m_Flow_weakestLevel) 54 = .ok (.iinc 4 (1), 3) := by decide +kernel
theorem d_Flow_weakestLevel_57 : decode (mC m_Flow_weakestLevel) 57 = .ok (.goto (-29), 3) := by decide +kernel
theorem d_Flow_weakestLevel_60 : decode (mC m_Flow_weakestLevel) 60 = .ok (.iinc 3 (1), 3) := by decide +kernel
theorem d_Flow_weakestLevel_63 : decode (mC m_Flow_weakestLevel) 63 = .ok (.goto (-50), 3) := by decide +kernel
theorem d_Flow_weakestLevel_66 : decode (mC m_Flow_weakestLevel) 66 = .ok (.iconst (-1), 1) := by decide +kernel
theorem d_Flow_weakestLevel_67 : decode (mC m_Flow_weakestLevel) 67 = .ok (.istore_n 3, 1) := by decide +kernel
theorem d_Flow_weakestLevel_68 : decode (mC m_Flow_weakestLevel) 68 = .ok (.iconst 0, 1) := by decide +kernel
theorem d_Flow_weakestLevel_69 : decode (mC m_Flow_weakestLevel) 69 = .ok (.istore 4, 2) := by decide +kernel
theorem d_Flow_weakestLevel_71 : decode (mC m_Flow_weakestLevel) 71 = .ok (.iload 4, 2) := by decide +kernel
theorem d_Flow_weakestLevel_73 : decode (mC m_Flow_weakestLevel) 73 = .ok (.aload_n 0, 1) := by decide +kernel
theorem d_Flow_weakestLevel_74 : decode (mC m_Flow_weakestLevel) 74 = .ok (.getfield 27, 3) := by decide +kernel
theorem d_Flow_weakestLevel_77 : decode (mC m_Flow_weakestLevel) 77 = .ok (.if_icmp .ge (38), 3) := by decide +kernel
theorem d_Flow_weakestLevel_80 : decode (mC m_Flow_weakestLevel) 80 = .ok (.iload 4, 2) := by decide +kernel
theorem d_Flow_weakestLevel_82 : decode (mC m_Flow_weakestLevel) 82 = .ok (.bipush (12), 2) := by decide +kernel
theorem d_Flow_weakestLevel_84 : decode (mC m_Flow_weakestLevel) 84 = .ok (.if_icmp .ge (31), 3) := by decide +kernel
theorem d_Flow_weakestLevel_87 : decode (mC m_Flow_weakestLevel) 87 = .ok (.aload_n 0, 1) := by decide +kernel
theorem d_Flow_weakestLevel_88 : decode (mC m_Flow_weakestLevel) 88 = .ok (.iload 4, 2) := by decide +kernel
theorem d_Flow_weakestLevel_90 : decode (mC m_Flow_weakestLevel) 90 = .ok (.invokevirtual 35, 3) := by decide +kernel
theorem d_Flow_weakestLevel_93 : decode (mC m_Flow_weakestLevel) 93 = .ok (.iconst 5, 1) := by decide +kernel
theorem d_Flow_weakestLevel_94 : decode (mC m_Flow_weakestLevel) 94 = .ok (.if_icmp .ne (15), 3) := by decide +kernel
theorem d_Flow_weakestLevel_97 : decode (mC m_Flow_weakestLevel) 97 = .ok (.iload_n 3, 1) := by decide +kernel
theorem d_Flow_weakestLevel_98 : decode (mC m_Flow_weakestLevel) 98 = .ok (.aload_n 1, 1) := by decide +kernel
theorem d_Flow_weakestLevel_99 : decode (mC m_Flow_weakestLevel) 99 = .ok (.iload 4, 2) := by decide +kernel
theorem d_Flow_weakestLevel_101 : decode (mC m_Flow_weakestLevel) 101 = .ok (.iaload, 1) := by decide +kernel
theorem d_Flow_weakestLevel_102 : decode (mC m_Flow_weakestLevel) 102 = .ok (.invokestatic 64, 3) := by decide +kernel
theorem d_Flow_weakestLevel_105 : decode (mC m_Flow_weakestLevel) 105 = .ok (.invokestatic 67, 3) := by decide +kernel
theorem d_Flow_weakestLevel_108 : decode (mC m_Flow_weakestLevel) 108 = .ok (.istore_n 3, 1) := by decide +kernel
theorem d_Flow_weakestLevel_109 : decode (mC m_Flow_weakestLevel) 109 = .ok (.iinc 4 (1), 3) := by decide +kernel
theorem d_Flow_weakestLevel_112 : decode (mC m_Flow_weakestLevel) 112 = .ok (.goto (-41), 3) := by decide +kernel
theorem d_Flow_weakestLevel_115 : decode (mC m_Flow_weakestLevel) 115 = .ok (.iload_n 3, 1) := by decide +kernel
theorem d_Flow_weakestLevel_116 : decode (mC m_Flow_weakestLevel) 116 = .ok (.ireturn, 1) := by decide +kernel
theorem d_K_weakest_0 : decode (mC m_K_weakest) 0 = .ok (.iload_n 1, 1) := by decide +kernel
theorem d_K_weakest_1 : decode (mC m_K_weakest) 1 = .ok (.aload_n 0, 1) := by decide +kernel
theorem d_K_weakest_2 : decode (mC m_K_weakest) 2 = .ok (.getfield 39, 3) := by decide +kernel
theorem d_K_weakest_5 : decode (mC m_K_weakest) 5 = .ok (.invokevirtual 134, 3) := by decide +kernel
theorem d_K_weakest_8 : decode (mC m_K_weakest) 8 = .ok (.invokestatic 148, 3) := by decide +kernel
theorem d_K_weakest_11 : decode (mC m_K_weakest) 11 = .ok (.aload_n 0, 1) := by decide +kernel
theorem d_K_weakest_12 : decode (mC m_K_weakest) 12 = .ok (.getfield 39, 3) := by decide +kernel
theorem d_K_weakest_15 : decode (mC m_K_weakest) 15 = .ok (.iload_n 1, 1) := by decide +kernel
theorem d_K_weakest_16 : decode (mC m_K_weakest) 16 = .ok (.invokevirtual 152, 3) := by decide +kernel
theorem d_K_weakest_19 : decode (mC m_K_weakest) 19 = .ok (.checkcast 29, 3) := by decide +kernel
theorem d_K_weakest_22 : decode (mC m_K_weakest) 22 = .ok (.invokevirtual 156, 3) := by decide +kernel
theorem d_K_weakest_25 : decode (mC m_K_weakest) 25 = .ok (.ireturn, 1) := by decide +kernel
theorem d_W_weakest_0 : decode (mC m_W_weakest) 0 = .ok (.aload_n 2, 1) := by decide +kernel
theorem d_W_weakest_1 : decode (mC m_W_weakest) 1 = .ok (.iconst 0, 1) := by decide +kernel
theorem d_W_weakest_2 : decode (mC m_W_weakest) 2 = .ok (.aload_n 0, 1) := by decide +kernel
theorem d_W_weakest_3 : decode (mC m_W_weakest) 3 = .ok (.iload_n 1, 1) := by decide +kernel
theorem d_W_weakest_4 : decode (mC m_W_weakest) 4 = .ok (.invokevirtual 34, 3) := by decide +kernel
theorem d_W_weakest_7 : decode (mC m_W_weakest) 7 = .ok (.i2l, 1) := by decide +kernel
theorem d_W_weakest_8 : decode (mC m_W_weakest) 8 = .ok (.lastore, 1) := by decide +kernel
theorem d_W_weakest_9 : decode (mC m_W_weakest) 9 = .ok (.goto (6), 3) := by decide +kernel
theorem d_W_weakest_12 : decode (mC m_W_weakest) 12 = .ok (.astore_n 3, 1) := by decide +kernel
theorem d_W_weakest_13 : decode (mC m_W_weakest) 13 = .ok (.iconst 1, 1) := by decide +kernel
theorem d_W_weakest_14 : decode (mC m_W_weakest) 14 = .ok (.ireturn, 1) := by decide +kernel
theorem d_W_weakest_15 : decode (mC m_W_weakest) 15 = .ok (.iconst 0, 1) := by decide +kernel
theorem d_W_weakest_16 : decode (mC m_W_weakest) 16 = .ok (.ireturn, 1) := by decide +kernel
theorem d_M_levelOf_0 : decode (mC m_M_levelOf) 0 = .ok (.iload_n 0, 1) := by decide +kernel
theorem d_M_levelOf_1 : decode (mC m_M_levelOf) 1 = .ok (.iconst 1, 1) := by decide +kernel
theorem d_M_levelOf_2 : decode (mC m_M_levelOf) 2 = .ok (.iand, 1) := by decide +kernel
theorem d_M_levelOf_3 : decode (mC m_M_levelOf) 3 = .ok (.iload_n 0, 1) := by decide +kernel
theorem d_M_levelOf_4 : decode (mC m_M_levelOf) 4 = .ok (.iconst 2, 1) := by decide +kernel
theorem d_M_levelOf_5 : decode (mC m_M_levelOf) 5 = .ok (.iand, 1) := by decide +kernel
theorem d_M_levelOf_6 : decode (mC m_M_levelOf) 6 = .ok (.iadd, 1) := by decide +kernel
theorem d_M_levelOf_7 : decode (mC m_M_levelOf) 7 = .ok (.iconst 3, 1) := by decide +kernel
theorem d_M_levelOf_8 : decode (mC m_M_levelOf) 8 = .ok (.iload_n 0, 1) := by decide +kernel
theorem d_M_levelOf_9 : decode (mC m_M_levelOf) 9 = .ok (.iconst 2, 1) := by decide +kernel
theorem d_M_levelOf_10 : decode (mC m_M_levelOf) 10 = .ok (.ishr, 1) := by decide +kernel
theorem d_M_levelOf_11 : decode (mC m_M_levelOf) 11 = .ok (.iconst 1, 1) := by decide +kernel
theorem d_M_levelOf_12 : decode (mC m_M_levelOf) 12 = .ok (.iand, 1) := by decide +kernel
theorem d_M_levelOf_13 : decode (mC m_M_levelOf) 13 = .ok (.imul, 1) := by decide +kernel
theorem d_M_levelOf_14 : decode (mC m_M_levelOf) 14 = .ok (.iadd, 1) := by decide +kernel
theorem d_M_levelOf_15 : decode (mC m_M_levelOf) 15 = .ok (.ireturn, 1) := by decide +kernel
theorem d_M_meet_0 : decode (mC m_M_meet) 0 = .ok (.iload_n 1, 1) := by decide +kernel
theorem d_M_meet_1 : decode (mC m_M_meet) 1 = .ok (.ifCond .lt (15), 3) := by decide +kernel
theorem d_M_meet_4 : decode (mC m_M_meet) 4 = .ok (.aload_n 0, 1) := by decide +kernel
theorem d_M_meet_5 : decode (mC m_M_meet) 5 = .ok (.getfield 53, 3) := by decide +kernel
theorem d_M_meet_8 : decode (mC m_M_meet) 8 = .ok (.bipush (8), 2) := by decide +kernel
theorem d_M_meet_10 : decode (mC m_M_meet) 10 = .ok (.iload_n 1, 1) := by decide +kernel
theorem d_M_meet_11 : decode (mC m_M_meet) 11 = .ok (.imul, 1) := by decide +kernel
theorem d_M_meet_12 : decode (mC m_M_meet) 12 = .ok (.iload_n 2, 1) := by decide +kernel
theorem d_M_meet_13 : decode (mC m_M_meet) 13 = .ok (.iadd, 1) := by decide +kernel
theorem d_M_meet_14 : decode (mC m_M_meet) 14 = .ok (.iconst 1, 1) := by decide +kernel
theorem d_M_meet_15 : decode (mC m_M_meet) 15 = .ok (.bastore, 1) := by decide +kernel
theorem d_M_meet_16 : decode (mC m_M_meet) 16 = .ok (.return_, 1) := by decide +kernel
theorem d_M_weakest_0 : decode (mC m_M_weakest) 0 = .ok (.aload_n 0, 1) := by decide +kernel
theorem d_M_weakest_1 : decode (mC m_M_weakest) 1 = .ok (.iload_n 1, 1) := by decide +kernel
theorem d_M_weakest_2 : decode (mC m_M_weakest) 2 = .ok (.iconst 0, 1) := by decide +kernel
theorem d_M_weakest_3 : decode (mC m_M_weakest) 3 = .ok (.aload_n 0, 1) := by decide +kernel
theorem d_M_weakest_4 : decode (mC m_M_weakest) 4 = .ok (.getfield 303, 3) := by decide +kernel
theorem d_M_weakest_7 : decode (mC m_M_weakest) 7 = .ok (.iconst 1, 1) := by decide +kernel
theorem d_M_weakest_8 : decode (mC m_M_weakest) 8 = .ok (.isub, 1) := by decide +kernel
theorem d_M_weakest_9 : decode (mC m_M_weakest) 9 = .ok (.invokestatic 228, 3) := by decide +kernel
theorem d_M_weakest_12 : decode (mC m_M_weakest) 12 = .ok (.invokevirtual 251, 3) := by decide +kernel
theorem d_M_weakest_15 : decode (mC m_M_weakest) 15 = .ok (.ifCond .ne (5), 3) := by decide +kernel
theorem d_M_weakest_18 : decode (mC m_M_weakest) 18 = .ok (.iconst 0, 1) := by decide +kernel
theorem d_M_weakest_19 : decode (mC m_M_weakest) 19 = .ok (.ireturn, 1) := by decide +kernel
theorem d_M_weakest_20 : decode (mC m_M_weakest) 20 = .ok (.iconst 0, 1) := by decide +kernel
theorem d_M_weakest_21 : decode (mC m_M_weakest) 21 = .ok (.istore_n 2, 1) := by decide +kernel
theorem d_M_weakest_22 : decode (mC m_M_weakest) 22 = .ok (.iload_n 2, 1) := by decide +kernel
theorem d_M_weakest_23 : decode (mC m_M_weakest) 23 = .ok (.bipush (96), 2) := by decide +kernel
theorem d_M_weakest_25 : decode (mC m_M_weakest) 25 = .ok (.if_icmp .ge (16), 3) := by decide +kernel
theorem d_M_weakest_28 : decode (mC m_M_weakest) 28 = .ok (.aload_n 0, 1) := by decide +kernel
theorem d_M_weakest_29 : decode (mC m_M_weakest) 29 = .ok (.getfield 53, 3) := by decide +kernel
theorem d_M_weakest_32 : decode (mC m_M_weakest) 32 = .ok (.iload_n 2, 1) := by decide +kernel
theorem d_M_weakest_33 : decode (mC m_M_weakest) 33 = .ok (.iconst 0, 1) := by decide +kernel
theorem d_M_weakest_34 : decode (mC m_M_weakest) 34 = .ok (.bastore, 1) := by decide +kernel
theorem d_M_weakest_35 : decode (mC m_M_weakest) 35 = .ok (.iinc 2 (1), 3) := by decide +kernel
theorem d_M_weakest_38 : decode (mC m_M_weakest) 38 = .ok (.goto (-16), 3) := by decide +kernel
theorem d_M_weakest_41 : decode (mC m_M_weakest) 41 = .ok (.aload_n 0, 1) := by decide +kernel
theorem d_M_weakest_42 : decode (mC m_M_weakest) 42 = .ok (.getfield 53, 3) := by decide +kernel
theorem d_M_weakest_45 : decode (mC m_M_weakest) 45 = .ok (.iconst 0, 1) := by decide +kernel
theorem d_M_weakest_46 : decode (mC m_M_weakest) 46 = .ok (.iconst 1, 1) := by decide +kernel
theorem d_M_weakest_47 : decode (mC m_M_weakest) 47 = .ok (.bastore, 1) := by decide +kernel
theorem d_M_weakest_48 : decode (mC m_M_weakest) 48 = .ok (.iconst 0, 1) := by decide +kernel
theorem d_M_weakest_49 : decode (mC m_M_weakest) 49 = .ok (.istore_n 2, 1) := by decide +kernel
theorem d_M_weakest_50 : decode (mC m_M_weakest) 50 = .ok (.iload_n 2, 1) := by decide +kernel
theorem d_M_weakest_51 : decode (mC m_M_weakest) 51 = .ok (.bipush (96), 2) := by decide +kernel
theorem d_M_weakest_53 : decode (mC m_M_weakest) 53 = .ok (.if_icmp .ge (171), 3) := by decide +kernel
theorem d_M_weakest_56 : decode (mC m_M_weakest) 56 = .ok (.iconst 0, 1) := by decide +kernel
theorem d_M_weakest_57 : decode (mC m_M_weakest) 57 = .ok (.istore_n 3, 1) := by decide +kernel
theorem d_M_weakest_58 : decode (mC m_M_weakest) 58 = .ok (.iload_n 3, 1) := by decide +kernel
theorem d_M_weakest_59 : decode (mC m_M_weakest) 59 = .ok (.bipush (96), 2) := by decide +kernel
theorem d_M_weakest_61 : decode (mC m_M_weakest) 61 = .ok (.if_icmp .ge (157), 3) := by decide +kernel
theorem d_M_weakest_64 : decode (mC m_M_weakest) 64 = .ok (.bipush (12), 2) := by decide +kernel
theorem d_M_weakest_66 : decode (mC m_M_weakest) 66 = .ok (.iload_n 1, 1) := by decide +kernel
theorem d_M_weakest_67 : decode (mC m_M_weakest) 67 = .ok (.imul, 1) := by decide +kernel
theorem d_M_weakest_68 : decode (mC m_M_weakest) 68 = .ok (.iload_n 3, 1) := by decide +kernel
theorem d_M_weakest_69 : decode (mC m_M_weakest) 69 = .ok (.bipush (8), 2) := by decide +kernel
theorem d_M_weakest_71 : decode (mC m_M_weakest) 71 = .ok (.idiv, 1) := by decide +kernel
theorem d_M_weakest_72 : decode (mC m_M_weakest) 72 = .ok (.iadd, 1) := by decide +kernel
theorem d_M_weakest_73 : decode (mC m_M_weakest) 73 = .ok (.istore 4, 2) := by decide +kernel
theorem d_M_weakest_75 : decode (mC m_M_weakest) 75 = .ok (.iload_n 3, 1) := by decide +kernel
theorem d_M_weakest_76 : decode (mC m_M_weakest) 76 = .ok (.bipush (8), 2) := by decide +kernel
theorem d_M_weakest_78 : decode (mC m_M_weakest) 78 = .ok (.irem, 1) := by decide +kernel
theorem d_M_weakest_79 : decode (mC m_M_weakest) 79 = .ok (.istore 5, 2) := by decide +kernel
theorem d_M_weakest_81 : decode (mC m_M_weakest) 81 = .ok (.aload_n 0, 1) := by decide +kernel
theorem d_M_weakest_82 : decode (mC m_M_weakest) 82 = .ok (.getfield 53, 3) := by decide +kernel
theorem d_M_weakest_85 : decode (mC m_M_weakest) 85 = .ok (.iload_n 3, 1) := by decide +kernel
theorem d_M_weakest_86 : decode (mC m_M_weakest) 86 = .ok (.baload, 1) := by decide +kernel
theorem d_M_weakest_87 : decode (mC m_M_weakest) 87 = .ok (.ifCond .eq (125), 3) := by decide +kernel
theorem d_M_weakest_90 : decode (mC m_M_weakest) 90 = .ok (.aload_n 0, 1) := by decide +kernel
theorem d_M_weakest_91 : decode (mC m_M_weakest) 91 = .ok (.getfield 38, 3) := by decide +kernel
theorem d_M_weakest_94 : decode (mC m_M_weakest) 94 = .ok (.iload 4, 2) := by decide +kernel
theorem d_M_weakest_96 : decode (mC m_M_weakest) 96 = .ok (.iaload, 1) := by decide +kernel
theorem d_M_weakest_97 : decode (mC m_M_weakest) 97 = .ok (.iconst 5, 1) := by decide +kernel
theorem d_M_weakest_98 : decode (mC m_M_weakest) 98 = .ok (.if_icmp .ge (114), 3) := by decide +kernel
theorem d_M_weakest_101 : decode (mC m_M_weakest) 101 = .ok (.aload_n 0, 1) := by decide +kernel
theorem d_M_weakest_102 : decode (mC m_M_weakest) 102 = .ok (.getfield 38, 3) := by decide +kernel
theorem d_M_weakest_105 : decode (mC m_M_weakest) 105 = .ok (.iload 4, 2) := by decide +kernel
theorem d_M_weakest_107 : decode (mC m_M_weakest) 107 = .ok (.iaload, 1) := by decide +kernel
theorem d_M_weakest_108 : decode (mC m_M_weakest) 108 = .ok (.iconst 4, 1) := by decide +kernel
theorem d_M_weakest_109 : decode (mC m_M_weakest) 109 = .ok (.if_icmp .ne (7), 3) := by decide +kernel
theorem d_M_weakest_112 : decode (mC m_M_weakest) 112 = .ok (.iconst 1, 1) := by decide +kernel
theorem d_M_weakest_113 : decode (mC m_M_weakest) 113 = .ok (.goto (4), 3) := by decide +kernel
theorem d_M_weakest_116 : decode (mC m_M_weakest) 116 = .ok (.iconst 0, 1) := by decide +kernel
theorem d_M_weakest_117 : decode (mC m_M_weakest) 117 = .ok (.istore 6, 2) := by decide +kernel
theorem d_M_weakest_119 : decode (mC m_M_weakest) 119 = .ok (.iload 5, 2) := by decide +kernel
theorem d_M_weakest_121 : decode (mC m_M_weakest) 121 = .ok (.invokestatic 309, 3) := by decide +kernel
theorem d_M_weakest_124 : decode (mC m_M_weakest) 124 = .ok (.aload_n 0, 1) := by decide +kernel
theorem d_M_weakest_125 : decode (mC m_M_weakest) 125 = .ok (.getfield 41, 3) := by decide +kernel
theorem d_M_weakest_128 : decode (mC m_M_weakest) 128 = .ok (.iload 4, 2) := by decide +kernel
theorem d_M_weakest_130 : decode (mC m_M_weakest) 130 = .ok (.iaload, 1) := by decide +kernel
theorem d_M_weakest_131 : decode (mC m_M_weakest) 131 = .ok (.if_icmp .lt (7), 3) := by decide +kernel
theorem d_M_weakest_134 : decode (mC m_M_weakest) 134 = .ok (.iconst 1, 1) := by decide +kernel
theorem d_M_weakest_135 : decode (mC m_M_weakest) 135 = .ok (.goto (4), 3) := by decide +kernel
theorem d_M_weakest_138 : decode (mC m_M_weakest) 138 = .ok (.iconst 0, 1) := by decide +kernel
theorem d_M_weakest_139 : decode (mC m_M_weakest) 139 = .ok (.istore 7, 2) := by decide +kernel
theorem d_M_weakest_141 : decode (mC m_M_weakest) 141 = .ok (.iload 6, 2) := by decide +kernel
theorem d_M_weakest_143 : decode (mC m_M_weakest) 143 = .ok (.ifCond .eq (8), 3) := by decide +kernel
theorem d_M_weakest_146 : decode (mC m_M_weakest) 146 = .ok (.iload 7, 2) := by decide +kernel
theorem d_M_weakest_148 : decode (mC m_M_weakest) 148 = .ok (.ifCond .eq (41), 3) := by decide +kernel
theorem d_M_weakest_151 : decode (mC m_M_weakest) 151 = .ok (.aload_n 0, 1) := by decide +kernel
theorem d_M_weakest_152 : decode (mC m_M_weakest) 152 = .ok (.aload_n 0, 1) := by decide +kernel
theorem d_M_weakest_153 : decode (mC m_M_weakest) 153 = .ok (.getfield 47, 3) := by decide +kernel
theorem d_M_weakest_156 : decode (mC m_M_weakest) 156 = .ok (.iload 4, 2) := by decide +kernel
theorem d_M_weakest_158 : decode (mC m_M_weakest) 158 = .ok (.iaload, 1) := by decide +kernel
theorem d_M_weakest_159 : decode (mC m_M_weakest) 159 = .ok (.aload_n 0, 1) := by decide +kernel
theorem d_M_weakest_160 : decode (mC m_M_weakest) 160 = .ok (.getfield 38, 3) := by decide +kernel
theorem d_M_weakest_163 : decode (mC m_M_weakest) 163 = .ok (.iload 4, 2) := by decide +kernel
theorem d_M_weakest_165 : decode (mC m_M_weakest) 165 = .ok (.iaload, 1) := by decide +kernel
theorem d_M_weakest_166 : decode (mC m_M_weakest) 166 = .ok (.ifCond .ne (18), 3) := by decide +kernel
theorem d_M_weakest_169 : decode (mC m_M_weakest) 169 = .ok (.iload 5, 2) := by decide +kernel
theorem d_M_weakest_171 : decode (mC m_M_weakest) 171 = .ok (.iconst 1, 1) := by decide +kernel
theorem d_M_weakest_172 : decode (mC m_M_weakest) 172 = .ok (.aload_n 0, 1) := by decide +kernel
theorem d_M_weakest_173 : decode (mC m_M_weakest) 173 = .ok (.getfield 41, 3) := by decide +kernel
theorem d_M_weakest_176 : decode (mC m_M_weakest) 176 = .ok (.iload 4, 2) := by decide +kernel
theorem d_M_weakest_178 : decode (mC m_M_weakest) 178 = .ok (.iaload, 1) := by decide +kernel
theorem d_M_weakest_179 : decode (mC m_M_weakest) 179 = .ok (.ishl, 1) := by decide +kernel
theorem d_M_weakest_180 : decode (mC m_M_weakest) 180 = .ok (.ior, 1) := by decide +kernel
theorem d_M_weakest_181 : decode (mC m_M_weakest) 181 = .ok (.goto (5), 3) := by decide +kernel
theorem d_M_weakest_184 : decode (mC m_M_weakest) 184 = .ok (.iload 5, 2) := by decide +kernel
theorem d_M_weakest_186 : decode (mC m_M_weakest) 186 = .ok (.invokevirtual 312, 3) := by decide +kernel
theorem d_M_weakest_189 : decode (mC m_M_weakest) 189 = .ok (.iload 6, 2) := by decide +kernel
theorem d_M_weakest_191 : decode (mC m_M_weakest) 191 = .ok (.ifCond .eq (8), 3) := by decide +kernel
theorem d_M_weakest_194 : decode (mC m_M_weakest) 194 = .ok (.iload 7, 2) := by decide +kernel
theorem d_M_weakest_196 : decode (mC m_M_weakest) 196 = .ok (.ifCond .ne (16), 3) := by decide +kernel
theorem d_M_weakest_199 : decode (mC m_M_weakest) 199 = .ok (.aload_n 0, 1) := by decide +kernel
theorem d_M_weakest_200 : decode (mC m_M_weakest) 200 = .ok (.aload_n 0, 1) := by decide +kernel
theorem d_M_weakest_201 : decode (mC m_M_weakest) 201 = .ok (.getfield 50, 3) := by decide +kernel
theorem d_M_weakest_204 : decode (mC m_M_weakest) 204 = .ok (.iload 4, 2) := by decide +kernel
theorem d_M_weakest_206 : decode (mC m_M_weakest) 206 = .ok (.iaload, 1) := by decide +kernel
theorem d_M_weakest_207 : decode (mC m_M_weakest) 207 = .ok (.iload 5, 2) := by decide +kernel
theorem d_M_weakest_209 : decode (mC m_M_weakest) 209 = .ok (.invokevirtual 312, 3) := by decide +kernel
theorem d_M_weakest_212 : decode (mC m_M_weakest) 212 = .ok (.iinc 3 (1), 3) := by decide +kernel
theorem d_M_weakest_215 : decode (mC m_M_weakest) 215 = .ok (.goto (-157), 3) := by decide +kernel
theorem d_M_weakest_218 : decode (mC m_M_weakest) 218 = .ok (.iinc 2 (1), 3) := by decide +kernel
theorem d_M_weakest_221 : decode (mC m_M_weakest) 221 = .ok (.goto (-171), 3) := by decide +kernel
theorem d_M_weakest_224 : decode (mC m_M_weakest) 224 = .ok (.iconst (-1), 1) := by decide +kernel
theorem d_M_weakest_225 : decode (mC m_M_weakest) 225 = .ok (.istore_n 2, 1) := by decide +kernel
theorem d_M_weakest_226 : decode (mC m_M_weakest) 226 = .ok (.iconst 0, 1) := by decide +kernel
theorem d_M_weakest_227 : decode (mC m_M_weakest) 227 = .ok (.istore_n 3, 1) := by decide +kernel
theorem d_M_weakest_228 : decode (mC m_M_weakest) 228 = .ok (.iload_n 3, 1) := by decide +kernel
theorem d_M_weakest_229 : decode (mC m_M_weakest) 229 = .ok (.bipush (96), 2) := by decide +kernel
theorem d_M_weakest_231 : decode (mC m_M_weakest) 231 = .ok (.if_icmp .ge (76), 3) := by decide +kernel
theorem d_M_weakest_234 : decode (mC m_M_weakest) 234 = .ok (.aload_n 0, 1) := by decide +kernel
theorem d_M_weakest_235 : decode (mC m_M_weakest) 235 = .ok (.getfield 53, 3) := by decide +kernel
theorem d_M_weakest_238 : decode (mC m_M_weakest) 238 = .ok (.iload_n 3, 1) := by decide +kernel
theorem d_M_weakest_239 : decode (mC m_M_weakest) 239 = .ok (.baload, 1) := by decide +kernel
theorem d_M_weakest_240 : decode (mC m_M_weakest) 240 = .ok (.ifCond .eq (25), 3) := by decide +kernel
theorem d_M_weakest_243 : decode (mC m_M_weakest) 243 = .ok (.aload_n 0, 1) := by decide +kernel
theorem d_M_weakest_244 : decode (mC m_M_weakest) 244 = .ok (.getfield 38, 3) := by decide +kernel
theorem d_M_weakest_247 : decode (mC m_M_weakest) 247 = .ok (.bipush (12), 2) := by decide +kernel
theorem d_M_weakest_249 : decode (mC m_M_weakest) 249 = .ok (.iload_n 1, 1) := by decide +kernel
theorem d_M_weakest_250 : decode (mC m_M_weakest) 250 = .ok (.imul, 1) := by decide +kernel
theorem d_M_weakest_251 : decode (mC m_M_weakest) 251 = .ok (.iload_n 3, 1) := by decide +kernel
theorem d_M_weakest_252 : decode (mC m_M_weakest) 252 = .ok (.bipush (8), 2) := by decide +kernel
theorem d_M_weakest_254 : decode (mC m_M_weakest) 254 = .ok (.idiv, 1) := by decide +kernel
theorem d_M_weakest_255 : decode (mC m_M_weakest) 255 = .ok (.iadd, 1) := by decide +kernel
theorem d_M_weakest_256 : decode (mC m_M_weakest) 256 = .ok (.iaload, 1) := by decide +kernel
theorem d_M_weakest_257 : decode (mC m_M_weakest) 257 = .ok (.iconst 5, 1) := by decide +kernel
theorem d_M_weakest_258 : decode (mC m_M_weakest) 258 = .ok (.if_icmp .ne (7), 3) := by decide +kernel
theorem d_M_weakest_261 : decode (mC m_M_weakest) 261 = .ok (.iconst 1, 1) := by decide +kernel
theorem d_M_weakest_262 : decode (mC m_M_weakest) 262 = .ok (.goto (4), 3) := by decide +kernel
theorem d_M_weakest_265 : decode (mC m_M_weakest) 265 = .ok (.iconst 0, 1) := by decide +kernel
theorem d_M_weakest_266 : decode (mC m_M_weakest) 266 = .ok (.istore 4, 2) := by decide +kernel
theorem d_M_weakest_268 : decode (mC m_M_weakest) 268 = .ok (.iload 4, 2) := by decide +kernel
theorem d_M_weakest_270 : decode (mC m_M_weakest) 270 = .ok (.ifCond .eq (29), 3) := by decide +kernel
theorem d_M_weakest_273 : decode (mC m_M_weakest) 273 = .ok (.iload_n 2, 1) := by decide +kernel
theorem d_M_weakest_274 : decode (mC m_M_weakest) 274 = .ok (.iconst (-1), 1) := by decide +kernel
theorem d_M_weakest_275 : decode (mC m_M_weakest) 275 = .ok (.if_icmp .eq (14), 3) := by decide +kernel
theorem d_M_weakest_278 : decode (mC m_M_weakest) 278 = .ok (.iload_n 3, 1) := by decide +kernel
theorem d_M_weakest_279 : decode (mC m_M_weakest) 279 = .ok (.bipush (8), 2) := by decide +kernel
theorem d_M_weakest_281 : decode (mC m_M_weakest) 281 = .ok (.irem, 1) := by decide +kernel
theorem d_M_weakest_282 : decode (mC m_M_weakest) 282 = .ok (.invokestatic 309, 3) := by decide +kernel
theorem d_M_weakest_285 : decode (mC m_M_weakest) 285 = .ok (.iload_n 2, 1) := by decide +kernel
theorem d_M_weakest_286 : decode (mC m_M_weakest) 286 = .ok (.if_icmp .ge (13), 3) := by decide +kernel
theorem d_M_weakest_289 : decode (mC m_M_weakest) 289 = .ok (.iload_n 3, 1) := by decide +kernel
theorem d_M_weakest_290 : decode (mC m_M_weakest) 290 = .ok (.bipush (8), 2) := by decide +kernel
theorem d_M_weakest_292 : decode (mC m_M_weakest) 292 = .ok (.irem, 1) := by decide +kernel
theorem d_M_weakest_293 : decode (mC m_M_weakest) 293 = .ok (.invokestatic 309, 3) := by decide +kernel
theorem d_M_weakest_296 : decode (mC m_M_weakest) 296 = .ok (.goto (4), 3) := by decide +kernel
theorem d_M_weakest_299 : decode (mC m_M_weakest) 299 = .ok (.iload_n 2, 1) := by decide +kernel
theorem d_M_weakest_300 : decode (mC m_M_weakest) 300 = .ok (.istore_n 2, 1) := by decide +kernel
theorem d_M_weakest_301 : decode (mC m_M_weakest) 301 = .ok (.iinc 3 (1), 3) := by decide +kernel
theorem d_M_weakest_304 : decode (mC m_M_weakest) 304 = .ok (.goto (-76), 3) := by decide +kernel
theorem d_M_weakest_307 : decode (mC m_M_weakest) 307 = .ok (.iload_n 2, 1) := by decide +kernel
theorem d_M_weakest_308 : decode (mC m_M_weakest) 308 = .ok (.ireturn, 1) := by decide +kernel
theorem d_K_points_0 : decode (mC m_K_points) 0 = .ok (.iload_n 1, 1) := by decide +kernel
theorem d_K_points_1 : decode (mC m_K_points) 1 = .ok (.iconst 0, 1) := by decide +kernel
theorem d_K_points_2 : decode (mC m_K_points) 2 = .ok (.iconst 2, 1) := by decide +kernel
theorem d_K_points_3 : decode (mC m_K_points) 3 = .ok (.invokestatic 84, 3) := by decide +kernel
theorem d_K_points_6 : decode (mC m_K_points) 6 = .ok (.invokestatic 88, 3) := by decide +kernel
theorem d_K_points_9 : decode (mC m_K_points) 9 = .ok (.iload_n 2, 1) := by decide +kernel
theorem d_K_points_10 : decode (mC m_K_points) 10 = .ok (.iload_n 3, 1) := by decide +kernel
theorem d_K_points_11 : decode (mC m_K_points) 11 = .ok (.ifCond .eq (7), 3) := by decide +kernel
theorem d_K_points_14 : decode (mC m_K_points) 14 = .ok (.iconst (-1), 1) := by decide +kernel
theorem d_K_points_15 : decode (mC m_K_points) 15 = .ok (.goto (4), 3) := by decide +kernel
theorem d_K_points_18 : decode (mC m_K_points) 18 = .ok (.iconst 0, 1) := by decide +kernel
theorem d_K_points_19 : decode (mC m_K_points) 19 = .ok (.iconst 5, 1) := by decide +kernel
theorem d_K_points_20 : decode (mC m_K_points) 20 = .ok (.invokestatic 84, 3) := by decide +kernel
theorem d_K_points_23 : decode (mC m_K_points) 23 = .ok (.invokestatic 88, 3) := by decide +kernel
theorem d_K_points_26 : decode (mC m_K_points) 26 = .ok (.iload_n 3, 1) := by decide +kernel
theorem d_K_points_27 : decode (mC m_K_points) 27 = .ok (.ifCond .eq (10), 3) := by decide +kernel
theorem d_K_points_30 : decode (mC m_K_points) 30 = .ok (.aload_n 0, 1) := by decide +kernel
theorem d_K_points_31 : decode (mC m_K_points) 31 = .ok (.getfield 26, 3) := by decide +kernel
theorem d_K_points_34 : decode (mC m_K_points) 34 = .ok (.goto (7), 3) := by decide +kernel
theorem d_K_points_37 : decode (mC m_K_points) 37 = .ok (.aload_n 0, 1) := by decide +kernel
theorem d_K_points_38 : decode (mC m_K_points) 38 = .ok (.getfield 22, 3) := by decide +kernel
theorem d_K_points_41 : decode (mC m_K_points) 41 = .ok (.astore 4, 2) := by decide +kernel
theorem d_K_points_43 : decode (mC m_K_points) 43 = .ok (.aload 4, 2) := by decide +kernel
theorem d_K_points_45 : decode (mC m_K_points) 45 = .ok (.iload_n 1, 1) := by decide +kernel
theorem d_K_points_46 : decode (mC m_K_points) 46 = .ok (.iaload, 1) := by decide +kernel
theorem d_K_points_47 : decode (mC m_K_points) 47 = .ok (.istore 5, 2) := by decide +kernel
theorem d_K_points_49 : decode (mC m_K_points) 49 = .ok (.aload 4, 2) := by decide +kernel
theorem d_K_points_51 : decode (mC m_K_points) 51 = .ok (.iload_n 1, 1) := by decide +kernel
theorem d_K_points_52 : decode (mC m_K_points) 52 = .ok (.iload_n 2, 1) := by decide +kernel
theorem d_K_points_53 : decode (mC m_K_points) 53 = .ok (.iastore, 1) := by decide +kernel
theorem d_K_points_54 : decode (mC m_K_points) 54 = .ok (.iload 5, 2) := by decide +kernel
theorem d_K_points_56 : decode (mC m_K_points) 56 = .ok (.ireturn, 1) := by decide +kernel
theorem d_W_points_0 : decode (mC m_W_points) 0 = .ok (.aload 4, 2) := by decide +kernel
theorem d_W_points_2 : decode (mC m_W_points) 2 = .ok (.iconst 0, 1) := by decide +kernel
theorem d_W_points_3 : decode (mC m_W_points) 3 = .ok (.aload_n 0, 1) := by decide +kernel
theorem d_W_points_4 : decode (mC m_W_points) 4 = .ok (.iload_n 1, 1) := by decide +kernel
theorem d_W_points_5 : decode (mC m_W_points) 5 = .ok (.iload_n 2, 1) := by decide +kernel
theorem d_W_points_6 : decode (mC m_W_points) 6 = .ok (.iload_n 3, 1) := by decide +kernel
theorem d_W_points_7 : decode (mC m_W_points) 7 = .ok (.invokevirtual 37, 3) := by decide +kernel
theorem d_W_points_10 : decode (mC m_W_points) 10 = .ok (.i2l, 1) := by decide +kernel
theorem d_W_points_11 : decode (mC m_W_points) 11 = .ok (.lastore, 1) := by decide +kernel
theorem d_W_points_12 : decode (mC m_W_points) 12 = .ok (.goto (7), 3) := by decide +kernel
theorem d_W_points_15 : decode (mC m_W_points) 15 = .ok (.astore 5, 2) := by decide +kernel
theorem d_W_points_17 : decode (mC m_W_points) 17 = .ok (.iconst 1, 1) := by decide +kernel
theorem d_W_points_18 : decode (mC m_W_points) 18 = .ok (.ireturn, 1) := by decide +kernel
theorem d_W_points_19 : decode (mC m_W_points) 19 = .ok (.iconst 0, 1) := by decide +kernel
theorem d_W_points_20 : decode (mC m_W_points) 20 = .ok (.ireturn, 1) := by decide +kernel
theorem d_M_points_0 : decode (mC m_M_points) 0 = .ok (.aload_n 0, 1) := by decide +kernel
theorem d_M_points_1 : decode (mC m_M_points) 1 = .ok (.iload_n 1, 1) := by decide +kernel
theorem d_M_points_2 : decode (mC m_M_points) 2 = .ok (.iconst 0, 1) := by decide +kernel
theorem d_M_points_3 : decode (mC m_M_points) 3 = .ok (.iconst 2, 1) := by decide +kernel
theorem d_M_points_4 : decode (mC m_M_points) 4 = .ok (.invokestatic 228, 3) := by decide +kernel
theorem d_M_points_7 : decode (mC m_M_points) 7 = .ok (.ifCond .eq (24), 3) := by decide +kernel
theorem d_M_points_10 : decode (mC m_M_points) 10 = .ok (.iload_n 2, 1) := by decide +kernel
theorem d_M_points_11 : decode (mC m_M_points) 11 = .ok (.iload_n 3, 1) := by decide +kernel
theorem d_M_points_12 : decode (mC m_M_points) 12 = .ok (.ifCond .eq (7), 3) := by decide +kernel
theorem d_M_points_15 : decode (mC m_M_points) 15 = .ok (.iconst (-1), 1) := by decide +kernel
theorem d_M_points_16 : decode (mC m_M_points) 16 = .ok (.goto (4), 3) := by decide +kernel
theorem d_M_points_19 : decode (mC m_M_points) 19 = .ok (.iconst 0, 1) := by decide +kernel
theorem d_M_points_20 : decode (mC m_M_points) 20 = .ok (.iconst 5, 1) := by decide +kernel
theorem d_M_points_21 : decode (mC m_M_points) 21 = .ok (.invokestatic 228, 3) := by decide +kernel
theorem d_M_points_24 : decode (mC m_M_points) 24 = .ok (.ifCond .eq (7), 3) := by decide +kernel
theorem d_M_points_27 : decode (mC m_M_points) 27 = .ok (.iconst 1, 1) := by decide +kernel
theorem d_M_points_28 : decode (mC m_M_points) 28 = .ok (.goto (4), 3) := by decide +kernel
theorem d_M_points_31 : decode (mC m_M_points) 31 = .ok (.iconst 0, 1) := by decide +kernel
theorem d_M_points_32 : decode (mC m_M_points) 32 = .ok (.invokevirtual 251, 3) := by decide +kernel
theorem d_M_points_35 : decode (mC m_M_points) 35 = .ok (.ifCond .ne (5), 3) := by decide +kernel
theorem d_M_points_38 : decode (mC m_M_points) 38 = .ok (.iconst 0, 1) := by decide +kernel
theorem d_M_points_39 : decode (mC m_M_points) 39 = .ok (.ireturn, 1) := by decide +kernel
theorem d_M_points_40 : decode (mC m_M_points) 40 = .ok (.iload_n 3, 1) := by decide +kernel
theorem d_M_points_41 : decode (mC m_M_points) 41 = .ok (.ifCond .eq (12), 3) := by decide +kernel
theorem d_M_points_44 : decode (mC m_M_points) 44 = .ok (.aload_n 0, 1) := by decide +kernel
theorem d_M_points_45 : decode (mC m_M_points) 45 = .ok (.getfield 59, 3) := by decide +kernel
theorem d_M_points_48 : decode (mC m_M_points) 48 = .ok (.iload_n 1, 1) := by decide +kernel
theorem d_M_points_49 : decode (mC m_M_points) 49 = .ok (.iaload, 1) := by decide +kernel
theorem d_M_points_50 : decode (mC m_M_points) 50 = .ok (.goto (9), 3) := by decide +kernel
theorem d_M_points_53 : decode (mC m_M_points) 53 = .ok (.aload_n 0, 1) := by decide +kernel
theorem d_M_points_54 : decode (mC m_M_points) 54 = .ok (.getfield 56, 3) := by decide +kernel
theorem d_M_points_57 : decode (mC m_M_points) 57 = .ok (.iload_n 1, 1) := by decide +kernel
theorem d_M_points_58 : decode (mC m_M_points) 58 = .ok (.iaload, 1) := by decide +kernel
theorem d_M_points_59 : decode (mC m_M_points) 59 = .ok (.istore 4, 2) := by decide +kernel
theorem d_M_points_61 : decode (mC m_M_points) 61 = .ok (.iload_n 3, 1) := by decide +kernel
theorem d_M_points_62 : decode (mC m_M_points) 62 = .ok (.ifCond .eq (13), 3) := by decide +kernel
theorem d_M_points_65 : decode (mC m_M_points) 65 = .ok (.aload_n 0, 1) := by decide +kernel
theorem d_M_points_66 : decode (mC m_M_points) 66 = .ok (.getfield 59, 3) := by decide +kernel
theorem d_M_points_69 : decode (mC m_M_points) 69 = .ok (.iload_n 1, 1) := by decide +kernel
theorem d_M_points_70 : decode (mC m_M_points) 70 = .ok (.iload_n 2, 1) := by decide +kernel
theorem d_M_points_71 : decode (mC m_M_points) 71 = .ok (.iastore, 1) := by decide +kernel
theorem d_M_points_72 : decode (mC m_M_points) 72 = .ok (.goto (10), 3) := by decide +kernel
theorem d_M_points_75 : decode (mC m_M_points) 75 = .ok (.aload_n 0, 1) := by decide +kernel
theorem d_M_points_76 : decode (mC m_M_points) 76 = .ok (.getfield 56, 3) := by decide +kernel
theorem d_M_points_79 : decode (mC m_M_points) 79 = .ok (.iload_n 1, 1) := by decide +kernel
theorem d_M_points_80 : decode (mC m_M_points) 80 = .ok (.iload_n 2, 1) := by decide +kernel
theorem d_M_points_81 : decode (mC m_M_points) 81 = .ok (.iastore, 1) := by decide +kernel
theorem d_M_points_82 : decode (mC m_M_points) 82 = .ok (.iload 4, 2) := by decide +kernel
theorem d_M_points_84 : decode (mC m_M_points) 84 = .ok (.ireturn, 1) := by decide +kernel
theorem d_AL_isEmpty_0 : decode (mC m_AL_isEmpty) 0 = .ok (.aload_n 0, 1) := by decide +kernel
theorem d_AL_isEmpty_1 : decode (mC m_AL_isEmpty) 1 = .ok (.getfield 48, 3) := by decide +kernel
theorem d_AL_isEmpty_4 : decode (mC m_AL_isEmpty) 4 = .ok (.ifCond .ne (7), 3) := by decide +kernel
theorem d_AL_isEmpty_7 : decode (mC m_AL_isEmpty) 7 = .ok (.iconst 1, 1) := by decide +kernel
theorem d_AL_isEmpty_8 : decode (mC m_AL_isEmpty) 8 = .ok (.goto (4), 3) := by decide +kernel
theorem d_AL_isEmpty_11 : decode (mC m_AL_isEmpty) 11 = .ok (.iconst 0, 1) := by decide +kernel
theorem d_AL_isEmpty_12 : decode (mC m_AL_isEmpty) 12 = .ok (.ireturn, 1) := by decide +kernel
theorem d_Shown_init1_0 : decode (mC m_Shown_init1) 0 = .ok (.aload_n 0, 1) := by decide +kernel
theorem d_Shown_init1_1 : decode (mC m_Shown_init1) 1 = .ok (.invokespecial 3, 3) := by decide +kernel
theorem d_Shown_init1_4 : decode (mC m_Shown_init1) 4 = .ok (.aload_n 0, 1) := by decide +kernel
theorem d_Shown_init1_5 : decode (mC m_Shown_init1) 5 = .ok (.iconst 3, 1) := by decide +kernel
theorem d_Shown_init1_6 : decode (mC m_Shown_init1) 6 = .ok (.newarray .int, 2) := by decide +kernel
theorem d_Shown_init1_8 : decode (mC m_Shown_init1) 8 = .ok (.dup, 1) := by decide +kernel
theorem d_Shown_init1_9 : decode (mC m_Shown_init1) 9 = .ok (.iconst 0, 1) := by decide +kernel
theorem d_Shown_init1_10 : decode (mC m_Shown_init1) 10 = .ok (.iconst (-1), 1) := by decide +kernel
theorem d_Shown_init1_11 : decode (mC m_Shown_init1) 11 = .ok (.iastore, 1) := by decide +kernel
theorem d_Shown_init1_12 : decode (mC m_Shown_init1) 12 = .ok (.dup, 1) := by decide +kernel
theorem d_Shown_init1_13 : decode (mC m_Shown_init1) 13 = .ok (.iconst 1, 1) := by decide +kernel
theorem d_Shown_init1_14 : decode (mC m_Shown_init1) 14 = .ok (.iconst (-1), 1) := by decide +kernel
theorem d_Shown_init1_15 : decode (mC m_Shown_init1) 15 = .ok (.iastore, 1) := by decide +kernel
theorem d_Shown_init1_16 : decode (mC m_Shown_init1) 16 = .ok (.dup, 1) := by decide +kernel
theorem d_Shown_init1_17 : decode (mC m_Shown_init1) 17 = .ok (.iconst 2, 1) := by decide +kernel
theorem d_Shown_init1_18 : decode (mC m_Shown_init1) 18 = .ok (.iconst (-1), 1) := by decide +kernel
theorem d_Shown_init1_19 : decode (mC m_Shown_init1) 19 = .ok (.iastore, 1) := by decide +kernel
theorem d_Shown_init1_20 : decode (mC m_Shown_init1) 20 = .ok (.putfield 9, 3) := by decide +kernel
theorem d_Shown_init1_23 : decode (mC m_Shown_init1) 23 = .ok (.return_, 1) := by decide +kernel
theorem d_Attempt_init_0 : decode (mC m_Attempt_init) 0 = .ok (.aload_n 0, 1) := by decide +kernel
theorem d_Attempt_init_1 : decode (mC m_Attempt_init) 1 = .ok (.invokespecial 3, 3) := by decide +kernel
theorem d_Attempt_init_4 : decode (mC m_Attempt_init) 4 = .ok (.aload_n 0, 1) := by decide +kernel
theorem d_Attempt_init_5 : decode (mC m_Attempt_init) 5 = .ok (.new 9, 3) := by decide +kernel
theorem d_Attempt_init_8 : decode (mC m_Attempt_init) 8 = .ok (.dup, 1) := by decide +kernel
theorem d_Attempt_init_9 : decode (mC m_Attempt_init) 9 = .ok (.invokespecial 11, 3) := by decide +kernel
theorem d_Attempt_init_12 : decode (mC m_Attempt_init) 12 = .ok (.putfield 12, 3) := by decide +kernel
theorem d_Attempt_init_15 : decode (mC m_Attempt_init) 15 = .ok (.aload_n 0, 1) := by decide +kernel
theorem d_Attempt_init_16 : decode (mC m_Attempt_init) 16 = .ok (.iconst 0, 1) := by decide +kernel
theorem d_Attempt_init_17 : decode (mC m_Attempt_init) 17 = .ok (.putfield 18, 3) := by decide +kernel
theorem d_Attempt_init_20 : decode (mC m_Attempt_init) 20 = .ok (.aload_n 0, 1) := by decide +kernel
theorem d_Attempt_init_21 : decode (mC m_Attempt_init) 21 = .ok (.iconst (-1), 1) := by decide +kernel
theorem d_Attempt_init_22 : decode (mC m_Attempt_init) 22 = .ok (.putfield 22, 3) := by decide +kernel
theorem d_Attempt_init_25 : decode (mC m_Attempt_init) 25 = .ok (.aload_n 0, 1) := by decide +kernel
theorem d_Attempt_init_26 : decode (mC m_Attempt_init) 26 = .ok (.iconst (-1), 1) := by decide +kernel
theorem d_Attempt_init_27 : decode (mC m_Attempt_init) 27 = .ok (.putfield 25, 3) := by decide +kernel
theorem d_Attempt_init_30 : decode (mC m_Attempt_init) 30 = .ok (.aload_n 0, 1) := by decide +kernel
theorem d_Attempt_init_31 : decode (mC m_Attempt_init) 31 = .ok (.aload_n 1, 1) := by decide +kernel
theorem d_Attempt_init_32 : decode (mC m_Attempt_init) 32 = .ok (.putfield 28, 3) := by decide +kernel
theorem d_Attempt_init_35 : decode (mC m_Attempt_init) 35 = .ok (.aload_n 0, 1) := by decide +kernel
theorem d_Attempt_init_36 : decode (mC m_Attempt_init) 36 = .ok (.iload_n 2, 1) := by decide +kernel
theorem d_Attempt_init_37 : decode (mC m_Attempt_init) 37 = .ok (.putfield 32, 3) := by decide +kernel
theorem d_Attempt_init_40 : decode (mC m_Attempt_init) 40 = .ok (.aload_n 0, 1) := by decide +kernel
theorem d_Attempt_init_41 : decode (mC m_Attempt_init) 41 = .ok (.iload_n 3, 1) := by decide +kernel
theorem d_Attempt_init_42 : decode (mC m_Attempt_init) 42 = .ok (.putfield 35, 3) := by decide +kernel
theorem d_Attempt_init_45 : decode (mC m_Attempt_init) 45 = .ok (.aload_n 0, 1) := by decide +kernel
theorem d_Attempt_init_46 : decode (mC m_Attempt_init) 46 = .ok (.aload 4, 2) := by decide +kernel
theorem d_Attempt_init_48 : decode (mC m_Attempt_init) 48 = .ok (.putfield 38, 3) := by decide +kernel
theorem d_Attempt_init_51 : decode (mC m_Attempt_init) 51 = .ok (.return_, 1) := by decide +kernel
theorem d_K_pointsOf_0 : decode (mC m_K_pointsOf) 0 = .ok (.iload_n 1, 1) := by decide +kernel
theorem d_K_pointsOf_1 : decode (mC m_K_pointsOf) 1 = .ok (.iconst 0, 1) := by decide +kernel
theorem d_K_pointsOf_2 : decode (mC m_K_pointsOf) 2 = .ok (.iconst 2, 1) := by decide +kernel
theorem d_K_pointsOf_3 : decode (mC m_K_pointsOf) 3 = .ok (.invokestatic 84, 3) := by decide +kernel
theorem d_K_pointsOf_6 : decode (mC m_K_pointsOf) 6 = .ok (.ifCond .ne (5), 3) := by decide +kernel
theorem d_K_pointsOf_9 : decode (mC m_K_pointsOf) 9 = .ok (.iconst 0, 1) := by decide +kernel
theorem d_K_pointsOf_10 : decode (mC m_K_pointsOf) 10 = .ok (.ireturn, 1) := by decide +kernel
theorem d_K_pointsOf_11 : decode (mC m_K_pointsOf) 11 = .ok (.iload_n 2, 1) := by decide +kernel
theorem d_K_pointsOf_12 : decode (mC m_K_pointsOf) 12 = .ok (.ifCond .eq (22), 3) := by decide +kernel
theorem d_K_pointsOf_15 : decode (mC m_K_pointsOf) 15 = .ok (.aload_n 0, 1) := by decide +kernel
theorem d_K_pointsOf_16 : decode (mC m_K_pointsOf) 16 = .ok (.getfield 26, 3) := by decide +kernel
theorem d_K_pointsOf_19 : decode (mC m_K_pointsOf) 19 = .ok (.iload_n 1, 1) := by decide +kernel
theorem d_K_pointsOf_20 : decode (mC m_K_pointsOf) 20 = .ok (.iaload, 1) := by decide +kernel
theorem d_K_pointsOf_21 : decode (mC m_K_pointsOf) 21 = .ok (.iconst (-1), 1) := by decide +kernel
theorem d_K_pointsOf_22 : decode (mC m_K_pointsOf) 22 = .ok (.if_icmp .eq (12), 3) := by decide +kernel
theorem d_K_pointsOf_25 : decode (mC m_K_pointsOf) 25 = .ok (.aload_n 0, 1) := by decide +kernel
theorem d_K_pointsOf_26 : decode (mC m_K_pointsOf) 26 = .ok (.getfield 26, 3) := by decide +kernel
theorem d_K_pointsOf_29 : decode (mC m_K_pointsOf) 29 = .ok (.iload_n 1, 1) := by decide +kernel
theorem d_K_pointsOf_30 : decode (mC m_K_pointsOf) 30 = .ok (.iaload, 1) := by decide +kernel
theorem d_K_pointsOf_31 : decode (mC m_K_pointsOf) 31 = .ok (.goto (9), 3) := by decide +kernel
theorem d_K_pointsOf_34 : decode (mC m_K_pointsOf) 34 = .ok (.aload_n 0, 1) := by decide +kernel
theorem d_K_pointsOf_35 : decode (mC m_K_pointsOf) 35 = .ok (.getfield 22, 3) := by decide +kernel
theorem d_K_pointsOf_38 : decode (mC m_K_pointsOf) 38 = .ok (.iload_n 1, 1) := by decide +kernel
theorem d_K_pointsOf_39 : decode (mC m_K_pointsOf) 39 = .ok (.iaload, 1) := by decide +kernel
theorem d_K_pointsOf_40 : decode (mC m_K_pointsOf) 40 = .ok (.ireturn, 1) := by decide +kernel
theorem d_Person_wrongsSince_0 : decode (mC m_Person_wrongsSince) 0 = .ok (.iconst 0, 1) := by decide +kernel
theorem d_Person_wrongsSince_1 : decode (mC m_Person_wrongsSince) 1 = .ok (.iload_n 1, 1) := by decide +kernel
theorem d_Person_wrongsSince_2 : decode (mC m_Person_wrongsSince) 2 = .ok (.invokestatic 47, 3) := by decide +kernel
theorem d_Person_wrongsSince_5 : decode (mC m_Person_wrongsSince) 5 = .ok (.istore_n 2, 1) := by decide +kernel
theorem d_Person_wrongsSince_6 : decode (mC m_Person_wrongsSince) 6 = .ok (.aload_n 0, 1) := by decide +kernel
theorem d_Person_wrongsSince_7 : decode (mC m_Person_wrongsSince) 7 = .ok (.getfield 18, 3) := by decide +kernel
theorem d_Person_wrongsSince_10 : decode (mC m_Person_wrongsSince) 10 = .ok (.iload_n 2, 1) := by decide +kernel
theorem d_Person_wrongsSince_11 : decode (mC m_Person_wrongsSince) 11 = .ok (.if_icmp .lt (7), 3) := by decide +kernel
theorem d_Person_wrongsSince_14 : decode (mC m_Person_wrongsSince) 14 = .ok (.iconst 1, 1) := by decide +kernel
theorem d_Person_wrongsSince_15 : decode (mC m_Person_wrongsSince) 15 = .ok (.goto (4), 3) := by decide +kernel
theorem d_Person_wrongsSince_18 : decode (mC m_Person_wrongsSince) 18 = .ok (.iconst 0, 1) := by decide +kernel
theorem d_Person_wrongsSince_19 : decode (mC m_Person_wrongsSince) 19 = .ok (.aload_n 0, 1) := by decide +kernel
theorem d_Person_wrongsSince_20 : decode (mC m_Person_wrongsSince) 20 = .ok (.getfield 22, 3) := by decide +kernel
theorem d_Person_wrongsSince_23 : decode (mC m_Person_wrongsSince) 23 = .ok (.iload_n 2, 1) := by decide +kernel
theorem d_Person_wrongsSince_24 : decode (mC m_Person_wrongsSince) 24 = .ok (.if_icmp .lt (7), 3) := by decide +kernel
theorem d_Person_wrongsSince_27 : decode (mC m_Person_wrongsSince) 27 = .ok (.iconst 1, 1) := by decide +kernel
theorem d_Person_wrongsSince_28 : decode (mC m_Person_wrongsSince) 28 = .ok (.goto (4), 3) := by decide +kernel
theorem d_Person_wrongsSince_31 : decode (mC m_Person_wrongsSince) 31 = .ok (.iconst 0, 1) := by decide +kernel
theorem d_Person_wrongsSince_32 : decode (mC m_Person_wrongsSince) 32 = .ok (.iadd, 1) := by decide +kernel
theorem d_Person_wrongsSince_33 : decode (mC m_Person_wrongsSince) 33 = .ok (.aload_n 0, 1) := by decide +kernel
theorem d_Person_wrongsSince_34 : decode (mC m_Person_wrongsSince) 34 = .ok (.getfield 25, 3) := by decide +kernel
theorem d_Person_wrongsSince_37 : decode (mC m_Person_wrongsSince) 37 = .ok (.iload_n 2, 1) := by decide +kernel
theorem d_Person_wrongsSince_38 : decode (mC m_Person_wrongsSince) 38 = .ok (.if_icmp .lt (7), 3) := by decide +kernel
theorem d_Person_wrongsSince_41 : decode (mC m_Person_wrongsSince) 41 = .ok (.iconst 1, 1) := by decide +kernel
theorem d_Person_wrongsSince_42 : decode (mC m_Person_wrongsSince) 42 = .ok (.goto (4), 3) := by decide +kernel
theorem d_Person_wrongsSince_45 : decode (mC m_Person_wrongsSince) 45 = .ok (.iconst 0, 1) := by decide +kernel
theorem d_Person_wrongsSince_46 : decode (mC m_Person_wrongsSince) 46 = .ok (.iadd, 1) := by decide +kernel
theorem d_Person_wrongsSince_47 : decode (mC m_Person_wrongsSince) 47 = .ok (.ireturn, 1) := by decide +kernel
theorem d_K_riskOf_0 : decode (mC m_K_riskOf) 0 = .ok (.aload_n 1, 1) := by decide +kernel
theorem d_K_riskOf_1 : decode (mC m_K_riskOf) 1 = .ok (.getfield 481, 3) := by decide +kernel
theorem d_K_riskOf_4 : decode (mC m_K_riskOf) 4 = .ok (.astore_n 3, 1) := by decide +kernel
theorem d_K_riskOf_5 : decode (mC m_K_riskOf) 5 = .ok (.aload_n 0, 1) := by decide +kernel
theorem d_K_riskOf_6 : decode (mC m_K_riskOf) 6 = .ok (.iconst 2, 1) := by decide +kernel
theorem d_K_riskOf_7 : decode (mC m_K_riskOf) 7 = .ok (.iload_n 2, 1) := by decide +kernel
theorem d_K_riskOf_8 : decode (mC m_K_riskOf) 8 = .ok (.invokevirtual 525, 3) := by decide +kernel
theorem d_K_riskOf_11 : decode (mC m_K_riskOf) 11 = .ok (.aload_n 3, 1) := by decide +kernel
theorem d_K_riskOf_12 : decode (mC m_K_riskOf) 12 = .ok (.aload_n 0, 1) := by decide +kernel
theorem d_K_riskOf_13 : decode (mC m_K_riskOf) 13 = .ok (.getfield 92, 3) := by decide +kernel
theorem d_K_riskOf_16 : decode (mC m_K_riskOf) 16 = .ok (.bipush (60), 2) := by decide +kernel
theorem d_K_riskOf_18 : decode (mC m_K_riskOf) 18 = .ok (.isub, 1) := by decide +kernel
theorem d_K_riskOf_19 : decode (mC m_K_riskOf) 19 = .ok (.iconst 1, 1) := by decide +kernel
theorem d_K_riskOf_20 : decode (mC m_K_riskOf) 20 = .ok (.iadd, 1) := by decide +kernel
theorem d_K_riskOf_21 : decode (mC m_K_riskOf) 21 = .ok (.invokevirtual 528, 3) := by decide +kernel
theorem d_K_riskOf_24 : decode (mC m_K_riskOf) 24 = .ok (.imul, 1) := by decide +kernel
theorem d_K_riskOf_25 : decode (mC m_K_riskOf) 25 = .ok (.istore 4, 2) := by decide +kernel
theorem d_K_riskOf_27 : decode (mC m_K_riskOf) 27 = .ok (.aload_n 1, 1) := by decide +kernel
theorem d_K_riskOf_28 : decode (mC m_K_riskOf) 28 = .ok (.getfield 510, 3) := by decide +kernel
theorem d_K_riskOf_31 : decode (mC m_K_riskOf) 31 = .ok (.aload_n 3, 1) := by decide +kernel
theorem d_K_riskOf_32 : decode (mC m_K_riskOf) 32 = .ok (.getfield 519, 3) := by decide +kernel
theorem d_K_riskOf_35 : decode (mC m_K_riskOf) 35 = .ok (.invokestatic 358, 3) := by decide +kernel
theorem d_K_riskOf_38 : decode (mC m_K_riskOf) 38 = .ok (.ifCond .ne (14), 3) := by decide +kernel
theorem d_K_riskOf_41 : decode (mC m_K_riskOf) 41 = .ok (.iload 4, 2) := by decide +kernel
theorem d_K_riskOf_43 : decode (mC m_K_riskOf) 43 = .ok (.aload_n 0, 1) := by decide +kernel
theorem d_K_riskOf_44 : decode (mC m_K_riskOf) 44 = .ok (.iconst 0, 1) := by decide +kernel
theorem d_K_riskOf_45 : decode (mC m_K_riskOf) 45 = .ok (.iload_n 2, 1) := by decide +kernel
theorem d_K_riskOf_46 : decode (mC m_K_riskOf) 46 = .ok (.invokevirtual 525, 3) := by decide +kernel
theorem d_K_riskOf_49 : decode (mC m_K_riskOf) 49 = .ok (.iadd, 1) := by decide +kernel
theorem d_K_riskOf_50 : decode (mC m_K_riskOf) 50 = .ok (.istore 4, 2) := by decide +kernel
theorem d_K_riskOf_52 : decode (mC m_K_riskOf) 52 = .ok (.aload_n 1, 1) := by decide +kernel
theorem d_K_riskOf_53 : decode (mC m_K_riskOf) 53 = .ok (.getfield 513, 3) := by decide +kernel
theorem d_K_riskOf_56 : decode (mC m_K_riskOf) 56 = .ok (.aload_n 3, 1) := by decide +kernel
theorem d_K_riskOf_57 : decode (mC m_K_riskOf) 57 = .ok (.getfield 531, 3) := by decide +kernel
theorem d_K_riskOf_60 : decode (mC m_K_riskOf) 60 = .ok (.invokestatic 358, 3) := by decide +kernel
theorem d_K_riskOf_63 : decode (mC m_K_riskOf) 63 = .ok (.ifCond .ne (14), 3) := by decide +kernel
theorem d_K_riskOf_66 : decode (mC m_K_riskOf) 66 = .ok (.iload 4, 2) := by decide +kernel
theorem d_K_riskOf_68 : decode (mC m_K_riskOf) 68 = .ok (.aload_n 0, 1) := by decide +kernel
theorem d_K_riskOf_69 : decode (mC m_K_riskOf) 69 = .ok (.iconst 1, 1) := by decide +kernel
theorem d_K_riskOf_70 : decode (mC m_K_riskOf) 70 = .ok (.iload_n 2, 1) := by decide +kernel
theorem d_K_riskOf_71 : decode (mC m_K_riskOf) 71 = .ok (.invokevirtual 525, 3) := by decide +kernel
theorem d_K_riskOf_74 : decode (mC m_K_riskOf) 74 = .ok (.iadd, 1) := by decide +kernel
theorem d_K_riskOf_75 : decode (mC m_K_riskOf) 75 = .ok (.istore 4, 2) := by decide +kernel
theorem d_K_riskOf_77 : decode (mC m_K_riskOf) 77 = .ok (.iload 4, 2) := by decide +kernel
theorem d_K_riskOf_79 : decode (mC m_K_riskOf) 79 = .ok (.ireturn, 1) := by decide +kernel
theorem d_Shown_levelSince_0 : decode (mC m_Shown_levelSince) 0 = .ok (.iconst 0, 1) := by decide +kernel
theorem d_Shown_levelSince_1 : decode (mC m_Shown_levelSince) 1 = .ok (.istore_n 2, 1) := by decide +kernel
theorem d_Shown_levelSince_2 : decode (mC m_Shown_levelSince) 2 = .ok (.iconst 0, 1) := by decide +kernel
theorem d_Shown_levelSince_3 : decode (mC m_Shown_levelSince) 3 = .ok (.istore_n 3, 1) := by decide +kernel
theorem d_Shown_levelSince_4 : decode (mC m_Shown_levelSince) 4 = .ok (.iload_n 3, 1) := by decide +kernel
theorem d_Shown_levelSince_5 : decode (mC m_Shown_levelSince) 5 = .ok (.iconst 3, 1) := by decide +kernel
theorem d_Shown_levelSince_6 : decode (mC m_Shown_levelSince) 6 = .ok (.if_icmp .ge (36), 3) := by decide +kernel
theorem d_Shown_levelSince_9 : decode (mC m_Shown_levelSince) 9 = .ok (.aload_n 0, 1) := by decide +kernel
theorem d_Shown_levelSince_10 : decode (mC m_Shown_levelSince) 10 = .ok (.getfield 9, 3) := by decide +kernel
theorem d_Shown_levelSince_13 : decode (mC m_Shown_levelSince) 13 = .ok (.iload_n 3, 1) := by decide +kernel
theorem d_Shown_levelSince_14 : decode (mC m_Shown_levelSince) 14 = .ok (.iaload, 1) := by decide +kernel
theorem d_Shown_levelSince_15 : decode (mC m_Shown_levelSince) 15 = .ok (.iconst (-1), 1) := by decide +kernel
theorem d_Shown_levelSince_16 : decode (mC m_Shown_levelSince) 16 = .ok (.if_icmp .eq (20), 3) := by decide +kernel
theorem d_Shown_levelSince_19 : decode (mC m_Shown_levelSince) 19 = .ok (.aload_n 0, 1) := by decide +kernel
theorem d_Shown_levelSince_20 : decode (mC m_Shown_levelSince) 20 = .ok (.getfield 9, 3) := by decide +kernel
theorem d_Shown_levelSince_23 : decode (mC m_Shown_levelSince) 23 = .ok (.iload_n 3, 1) := by decide +kernel
theorem d_Shown_levelSince_24 : decode (mC m_Shown_levelSince) 24 = .ok (.iaload, 1) := by decide +kernel
theorem d_Shown_levelSince_25 : decode (mC m_Shown_levelSince) 25 = .ok (.iload_n 1, 1) := by decide +kernel
theorem d_Shown_levelSince_26 : decode (mC m_Shown_levelSince) 26 = .ok (.if_icmp .lt (10), 3) := by decide +kernel
theorem d_Shown_levelSince_29 : decode (mC m_Shown_levelSince) 29 = .ok (.iload_n 2, 1) := by decide +kernel
theorem d_Shown_levelSince_30 : decode (mC m_Shown_levelSince) 30 = .ok (.iload_n 3, 1) := by decide +kernel
theorem d_Shown_levelSince_31 : decode (mC m_Shown_levelSince) 31 = .ok (.invokestatic 26, 3) := by decide +kernel
theorem d_Shown_levelSince_34 : decode (mC m_Shown_levelSince) 34 = .ok (.iadd, 1) := by decide +kernel
theorem d_Shown_levelSince_35 : decode (mC m_Shown_levelSince) 35 = .ok (.istore_n 2, 1) := by decide +kernel
theorem d_Shown_levelSince_36 : decode (mC m_Shown_levelSince) 36 = .ok (.iinc 3 (1), 3) := by decide +kernel
theorem d_Shown_levelSince_39 : decode (mC m_Shown_levelSince) 39 = .ok (.goto (-35), 3) := by decide +kernel
theorem d_Shown_levelSince_42 : decode (mC m_Shown_levelSince) 42 = .ok (.iload_n 2, 1) := by decide +kernel
theorem d_Shown_levelSince_43 : decode (mC m_Shown_levelSince) 43 = .ok (.ireturn, 1) := by decide +kernel
theorem d_K_holds_0 : decode (mC m_K_holds) 0 = .ok (.aload_n 1, 1) := by decide +kernel
theorem d_K_holds_1 : decode (mC m_K_holds) 1 = .ok (.getfield 186, 3) := by decide +kernel
theorem d_K_holds_4 : decode (mC m_K_holds) 4 = .ok (.iload_n 2, 1) := by decide +kernel
theorem d_K_holds_5 : decode (mC m_K_holds) 5 = .ok (.invokevirtual 192, 3) := by decide +kernel
theorem d_K_holds_8 : decode (mC m_K_holds) 8 = .ok (.istore_n 3, 1) := by decide +kernel
theorem d_K_holds_9 : decode (mC m_K_holds) 9 = .ok (.aload_n 1, 1) := by decide +kernel
theorem d_K_holds_10 : decode (mC m_K_holds) 10 = .ok (.getfield 186, 3) := by decide +kernel
theorem d_K_holds_13 : decode (mC m_K_holds) 13 = .ok (.iload_n 2, 1) := by decide +kernel
theorem d_K_holds_14 : decode (mC m_K_holds) 14 = .ok (.invokevirtual 500, 3) := by decide +kernel
theorem d_K_holds_17 : decode (mC m_K_holds) 17 = .ok (.tableswitch (98) (1) (4) #[31, 46, 62, 80], 31) := by decide +kernel
theorem d_K_holds_48 : decode (mC m_K_holds) 48 = .ok (.aload_n 1, 1) := by decide +kernel
theorem d_K_holds_49 : decode (mC m_K_holds) 49 = .ok (.getfield 510, 3) := by decide +kernel
theorem d_K_holds_52 : decode (mC m_K_holds) 52 = .ok (.aload_n 1, 1) := by decide +kernel
theorem d_K_holds_53 : decode (mC m_K_holds) 53 = .ok (.getfield 481, 3) := by decide +kernel
theorem d_K_holds_56 : decode (mC m_K_holds) 56 = .ok (.getfield 519, 3) := by decide +kernel
theorem d_K_holds_59 : decode (mC m_K_holds) 59 = .ok (.invokestatic 358, 3) := by decide +kernel
theorem d_K_holds_62 : decode (mC m_K_holds) 62 = .ok (.ireturn, 1) := by decide +kernel
theorem d_K_holds_63 : decode (mC m_K_holds) 63 = .ok (.aload_n 0, 1) := by decide +kernel
theorem d_K_holds_64 : decode (mC m_K_holds) 64 = .ok (.aload_n 1, 1) := by decide +kernel
theorem d_K_holds_65 : decode (mC m_K_holds) 65 = .ok (.iconst 0, 1) := by decide +kernel
theorem d_K_holds_66 : decode (mC m_K_holds) 66 = .ok (.invokevirtual 198, 3) := by decide +kernel
theorem d_K_holds_69 : decode (mC m_K_holds) 69 = .ok (.iload_n 3, 1) := by decide +kernel
theorem d_K_holds_70 : decode (mC m_K_holds) 70 = .ok (.if_icmp .lt (7), 3) := by decide +kernel
theorem d_K_holds_73 : decode (mC m_K_holds) 73 = .ok (.iconst 1, 1) := by decide +kernel
theorem d_K_holds_74 : decode (mC m_K_holds) 74 = .ok (.goto (4), 3) := by decide +kernel
theorem d_K_holds_77 : decode (mC m_K_holds) 77 = .ok (.iconst 0, 1) := by decide +kernel
theorem d_K_holds_78 : decode (mC m_K_holds) 78 = .ok (.ireturn, 1) := by decide +kernel
theorem d_K_holds_79 : decode (mC m_K_holds) 79 = .ok (.aload_n 1, 1) := by decide +kernel
theorem d_K_holds_80 : decode (mC m_K_holds) 80 = .ok (.getfield 481, 3) := by decide +kernel
theorem d_K_holds_83 : decode (mC m_K_holds) 83 = .ok (.iload_n 3, 1) := by decide +kernel
theorem d_K_holds_84 : decode (mC m_K_holds) 84 = .ok (.invokevirtual 116, 3) := by decide +kernel
theorem d_K_holds_87 : decode (mC m_K_holds) 87 = .ok (.iconst 1, 1) := by decide +kernel
theorem d_K_holds_88 : decode (mC m_K_holds) 88 = .ok (.if_icmp .ne (7), 3) := by decide +kernel
theorem d_K_holds_91 : decode (mC m_K_holds) 91 = .ok (.iconst 1, 1) := by decide +kernel
theorem d_K_holds_92 : decode (mC m_K_holds) 92 = .ok (.goto (4), 3) := by decide +kernel
theorem d_K_holds_95 : decode (mC m_K_holds) 95 = .ok (.iconst 0, 1) := by decide +kernel
theorem d_K_holds_96 : decode (mC m_K_holds) 96 = .ok (.ireturn, 1) := by decide +kernel
theorem d_K_holds_97 : decode (mC m_K_holds) 97 = .ok (.aload_n 1, 1) := by decide +kernel
theorem d_K_holds_98 : decode (mC m_K_holds) 98 = .ok (.getfield 482, 3) := by decide +kernel
theorem d_K_holds_101 : decode (mC m_K_holds) 101 = .ok (.iconst 0, 1) := by decide +kernel
theorem d_K_holds_102 : decode (mC m_K_holds) 102 = .ok (.invokevirtual 522, 3) := by decide +kernel
theorem d_K_holds_105 : decode (mC m_K_holds) 105 = .ok (.iload_n 3, 1) := by decide +kernel
theorem d_K_holds_106 : decode (mC m_K_holds) 106 = .ok (.if_icmp .lt (7), 3) := by decide +kernel
theorem d_K_holds_109 : decode (mC m_K_holds) 109 = .ok (.iconst 1, 1) := by decide +kernel
theorem d_K_holds_110 : decode (mC m_K_holds) 110 = .ok (.goto (4), 3) := by decide +kernel
theorem d_K_holds_113 : decode (mC m_K_holds) 113 = .ok (.iconst 0, 1) := by decide +kernel
theorem d_K_holds_114 : decode (mC m_K_holds) 114 = .ok (.ireturn, 1) := by decide +kernel
theorem d_K_holds_115 : decode (mC m_K_holds) 115 = .ok (.iconst 0, 1) := by decide +kernel
theorem d_K_holds_116 : decode (mC m_K_holds) 116 = .ok (.ireturn, 1) := by decide +kernel
theorem d_Attempt_waitAt_0 : decode (mC m_Attempt_waitAt) 0 = .ok (.aload_n 0, 1) := by decide +kernel
theorem d_Attempt_waitAt_1 : decode (mC m_Attempt_waitAt) 1 = .ok (.iload_n 1, 1) := by decide +kernel
theorem d_Attempt_waitAt_2 : decode (mC m_Attempt_waitAt) 2 = .ok (.putfield 22, 3) := by decide +kernel
theorem d_Attempt_waitAt_5 : decode (mC m_Attempt_waitAt) 5 = .ok (.aload_n 0, 1) := by decide +kernel
theorem d_Attempt_waitAt_6 : decode (mC m_Attempt_waitAt) 6 = .ok (.iconst 0, 1) := by decide +kernel
theorem d_Attempt_waitAt_7 : decode (mC m_Attempt_waitAt) 7 = .ok (.putfield 42, 3) := by decide +kernel
theorem d_Attempt_waitAt_10 : decode (mC m_Attempt_waitAt) 10 = .ok (.return_, 1) := by decide +kernel
theorem d_Shown_init2_0 : decode (mC m_Shown_init2) 0 = .ok (.aload_n 0, 1) := by decide +kernel
theorem d_Shown_init2_1 : decode (mC m_Shown_init2) 1 = .ok (.invokespecial 3, 3) := by decide +kernel
theorem d_Shown_init2_4 : decode (mC m_Shown_init2) 4 = .ok (.aload_n 0, 1) := by decide +kernel
theorem d_Shown_init2_5 : decode (mC m_Shown_init2) 5 = .ok (.iconst 3, 1) := by decide +kernel
theorem d_Shown_init2_6 : decode (mC m_Shown_init2) 6 = .ok (.newarray .int, 2) := by decide +kernel
theorem d_Shown_init2_8 : decode (mC m_Shown_init2) 8 = .ok (.dup, 1) := by decide +kernel
theorem d_Shown_init2_9 : decode (mC m_Shown_init2) 9 = .ok (.iconst 0, 1) := by decide +kernel
theorem d_Shown_init2_10 : decode (mC m_Shown_init2) 10 = .ok (.iconst (-1), 1) := by decide +kernel
theorem d_Shown_init2_11 : decode (mC m_Shown_init2) 11 = .ok (.iastore, 1) := by decide +kernel
theorem d_Shown_init2_12 : decode (mC m_Shown_init2) 12 = .ok (.dup, 1) := by decide +kernel
theorem d_Shown_init2_13 : decode (mC m_Shown_init2) 13 = .ok (.iconst 1, 1) := by decide +kernel
theorem d_Shown_init2_14 : decode (mC m_Shown_init2) 14 = .ok (.iconst (-1), 1) := by decide +kernel
theorem d_Shown_init2_15 : decode (mC m_Shown_init2) 15 = .ok (.iastore, 1) := by decide +kernel
theorem d_Shown_init2_16 : decode (mC m_Shown_init2) 16 = .ok (.dup, 1) := by decide +kernel
theorem d_Shown_init2_17 : decode (mC m_Shown_init2) 17 = .ok (.iconst 2, 1) := by decide +kernel
theorem d_Shown_init2_18 : decode (mC m_Shown_init2) 18 = .ok (.iconst (-1), 1) := by decide +kernel
theorem d_Shown_init2_19 : decode (mC m_Shown_init2) 19 = .ok (.iastore, 1) := by decide +kernel
theorem d_Shown_init2_20 : decode (mC m_Shown_init2) 20 = .ok (.putfield 9, 3) := by decide +kernel
theorem d_Shown_init2_23 : decode (mC m_Shown_init2) 23 = .ok (.iconst 0, 1) := by decide +kernel
theorem d_Shown_init2_24 : decode (mC m_Shown_init2) 24 = .ok (.istore_n 2, 1) := by decide +kernel
theorem d_Shown_init2_25 : decode (mC m_Shown_init2) 25 = .ok (.iload_n 2, 1) := by decide +kernel
theorem d_Shown_init2_26 : decode (mC m_Shown_init2) 26 = .ok (.iconst 3, 1) := by decide +kernel
theorem d_Shown_init2_27 : decode (mC m_Shown_init2) 27 = .ok (.if_icmp .ge (21), 3) := by decide +kernel
theorem d_Shown_init2_30 : decode (mC m_Shown_init2) 30 = .ok (.aload_n 0, 1) := by decide +kernel
theorem d_Shown_init2_31 : decode (mC m_Shown_init2) 31 = .ok (.getfield 9, 3) := by decide +kernel
theorem d_Shown_init2_34 : decode (mC m_Shown_init2) 34 = .ok (.iload_n 2, 1) := by decide +kernel
theorem d_Shown_init2_35 : decode (mC m_Shown_init2) 35 = .ok (.aload_n 1, 1) := by decide +kernel
theorem d_Shown_init2_36 : decode (mC m_Shown_init2) 36 = .ok (.getfield 9, 3) := by decide +kernel
theorem d_Shown_init2_39 : decode (mC m_Shown_init2) 39 = .ok (.iload_n 2, 1) := by decide +kernel
theorem d_Shown_init2_40 : decode (mC m_Shown_init2) 40 = .ok (.iaload, 1) := by decide +kernel
theorem d_Shown_init2_41 : decode (mC m_Shown_init2) 41 = .ok (.iastore, 1) := by decide +kernel
theorem d_Shown_init2_42 : decode (mC m_Shown_init2) 42 = .ok (.iinc 2 (1), 3) := by decide +kernel
theorem d_Shown_init2_45 : decode (mC m_Shown_init2) 45 = .ok (.goto (-20), 3) := by decide +kernel
theorem d_Shown_init2_48 : decode (mC m_Shown_init2) 48 = .ok (.return_, 1) := by decide +kernel
theorem d_Session_init_0 : decode (mC m_Session_init) 0 = .ok (.aload_n 0, 1) := by decide +kernel
theorem d_Session_init_1 : decode (mC m_Session_init) 1 = .ok (.invokespecial 3, 3) := by decide +kernel
theorem d_Session_init_4 : decode (mC m_Session_init) 4 = .ok (.aload_n 0, 1) := by decide +kernel
theorem d_Session_init_5 : decode (mC m_Session_init) 5 = .ok (.iconst 1, 1) := by decide +kernel
theorem d_Session_init_6 : decode (mC m_Session_init) 6 = .ok (.putfield 9, 3) := by decide +kernel
theorem d_Session_init_9 : decode (mC m_Session_init) 9 = .ok (.aload_n 0, 1) := by decide +kernel
theorem d_Session_init_10 : decode (mC m_Session_init) 10 = .ok (.iload_n 1, 1) := by decide +kernel
theorem d_Session_init_11 : decode (mC m_Session_init) 11 = .ok (.putfield 15, 3) := by decide +kernel
theorem d_Session_init_14 : decode (mC m_Session_init) 14 = .ok (.aload_n 0, 1) := by decide +kernel
theorem d_Session_init_15 : decode (mC m_Session_init) 15 = .ok (.aload_n 2, 1) := by decide +kernel
theorem d_Session_init_16 : decode (mC m_Session_init) 16 = .ok (.putfield 19, 3) := by decide +kernel
theorem d_Session_init_19 : decode (mC m_Session_init) 19 = .ok (.aload_n 0, 1) := by decide +kernel
theorem d_Session_init_20 : decode (mC m_Session_init) 20 = .ok (.aload_n 3, 1) := by decide +kernel
theorem d_Session_init_21 : decode (mC m_Session_init) 21 = .ok (.putfield 23, 3) := by decide +kernel
theorem d_Session_init_24 : decode (mC m_Session_init) 24 = .ok (.aload_n 0, 1) := by decide +kernel
theorem d_Session_init_25 : decode (mC m_Session_init) 25 = .ok (.aload 4, 2) := by decide +kernel
theorem d_Session_init_27 : decode (mC m_Session_init) 27 = .ok (.putfield 27, 3) := by decide +kernel
theorem d_Session_init_30 : decode (mC m_Session_init) 30 = .ok (.aload_n 0, 1) := by decide +kernel
theorem d_Session_init_31 : decode (mC m_Session_init) 31 = .ok (.iload 5, 2) := by decide +kernel
theorem d_Session_init_33 : decode (mC m_Session_init) 33 = .ok (.putfield 31, 3) := by decide +kernel
theorem d_Session_init_36 : decode (mC m_Session_init) 36 = .ok (.aload_n 0, 1) := by decide +kernel
theorem d_Session_init_37 : decode (mC m_Session_init) 37 = .ok (.iload 5, 2) := by decide +kernel
theorem d_Session_init_39 : decode (mC m_Session_init) 39 = .ok (.putfield 34, 3) := by decide +kernel
theorem d_Session_init_42 : decode (mC m_Session_init) 42 = .ok (.return_, 1) := by decide +kernel
theorem d_K_beginSession_0 : decode (mC m_K_beginSession) 0 = .ok (.aload_n 0, 1) := by decide +kernel
theorem d_K_beginSession_1 : decode (mC m_K_beginSession) 1 = .ok (.getfield 46, 3) := by decide +kernel
theorem d_K_beginSession_4 : decode (mC m_K_beginSession) 4 = .ok (.invokevirtual 134, 3) := by decide +kernel
theorem d_K_beginSession_7 : decode (mC m_K_beginSession) 7 = .ok (.istore 4, 2) := by decide +kernel
theorem d_K_beginSession_9 : decode (mC m_K_beginSession) 9 = .ok (.aload_n 0, 1) := by decide +kernel
theorem d_K_beginSession_10 : decode (mC m_K_beginSession) 10 = .ok (.getfield 46, 3) := by decide +kernel
theorem d_K_beginSession_13 : decode (mC m_K_beginSession) 13 = .ok (.new 207, 3) := by decide +kernel
theorem d_K_beginSession_16 : decode (mC m_K_beginSession) 16 = .ok (.dup, 1) := by decide +kernel
theorem d_K_beginSession_17 : decode (mC m_K_beginSession) 17 = .ok (.iload 4, 2) := by decide +kernel
theorem d_K_beginSession_19 : decode (mC m_K_beginSession) 19 = .ok (.aload_n 1, 1) := by decide +kernel
theorem d_K_beginSession_20 : decode (mC m_K_beginSession) 20 = .ok (.aload_n 2, 1) := by decide +kernel
theorem d_K_beginSession_21 : decode (mC m_K_beginSession) 21 = .ok (.new 238, 3) := by decide +kernel
theorem d_K_beginSession_24 : decode (mC m_K_beginSession) 24 = .ok (.dup, 1) := by decide +kernel
theorem d_K_beginSession_25 : decode (mC m_K_beginSession) 25 = .ok (.aload_n 3, 1) := by decide +kernel
theorem d_K_beginSession_26 : decode (mC m_K_beginSession) 26 = .ok (.invokespecial 534, 3) := by decide +kernel
theorem d_K_beginSession_29 : decode (mC m_K_beginSession) 29 = .ok (.aload_n 0, 1) := by decide +kernel
theorem d_K_beginSession_30 : decode (mC m_K_beginSession) 30 = .ok (.getfield 92, 3) := by decide +kernel
theorem d_K_beginSession_33 : decode (mC m_K_beginSession) 33 = .ok (.invokespecial 537, 3) := by decide +kernel
theorem d_K_beginSession_36 : decode (mC m_K_beginSession) 36 = .ok (.invokevirtual 145, 3) := by decide +kernel
theorem d_K_beginSession_39 : decode (mC m_K_beginSession) 39 = .ok (.pop, 1) := by decide +kernel
theorem d_K_beginSession_40 : decode (mC m_K_beginSession) 40 = .ok (.aload_n 0, 1) := by decide +kernel
theorem d_K_beginSession_41 : decode (mC m_K_beginSession) 41 = .ok (.dup, 1) := by decide +kernel
theorem d_K_beginSession_42 : decode (mC m_K_beginSession) 42 = .ok (.getfield 99, 3) := by decide +kernel
theorem d_K_beginSession_45 : decode (mC m_K_beginSession) 45 = .ok (.iconst 1, 1) := by decide +kernel
theorem d_K_beginSession_46 : decode (mC m_K_beginSession) 46 = .ok (.iadd, 1) := by decide +kernel
theorem d_K_beginSession_47 : decode (mC m_K_beginSession) 47 = .ok (.putfield 99, 3) := by decide +kernel
theorem d_K_beginSession_50 : decode (mC m_K_beginSession) 50 = .ok (.aload_n 0, 1) := by decide +kernel
theorem d_K_beginSession_51 : decode (mC m_K_beginSession) 51 = .ok (.getfield 10, 3) := by decide +kernel
theorem d_K_beginSession_54 : decode (mC m_K_beginSession) 54 = .ok (.iconst 0, 1) := by decide +kernel
theorem d_K_beginSession_55 : decode (mC m_K_beginSession) 55 = .ok (.iload 4, 2) := by decide +kernel
theorem d_K_beginSession_57 : decode (mC m_K_beginSession) 57 = .ok (.aload_n 0, 1) := by decide +kernel
theorem d_K_beginSession_58 : decode (mC m_K_beginSession) 58 = .ok (.getfield 92, 3) := by decide +kernel
theorem d_K_beginSession_61 : decode (mC m_K_beginSession) 61 = .ok (.invokevirtual 351, 3) := by decide +kernel
theorem d_K_beginSession_64 : decode (mC m_K_beginSession) 64 = .ok (.iload 4, 2) := by decide +kernel
theorem d_K_beginSession_66 : decode (mC m_K_beginSession) 66 = .ok (.ireturn, 1) := by decide +kernel
theorem d_Person_learn_0 : decode (mC m_Person_learn) 0 = .ok (.aload_n 0, 1) := by decide +kernel
theorem d_Person_learn_1 : decode (mC m_Person_learn) 1 = .ok (.dup, 1) := by decide +kernel
theorem d_Person_learn_2 : decode (mC m_Person_learn) 2 = .ok (.getfield 53, 3) := by decide +kernel
theorem d_Person_learn_5 : decode (mC m_Person_learn) 5 = .ok (.iconst 1, 1) := by decide +kernel
theorem d_Person_learn_6 : decode (mC m_Person_learn) 6 = .ok (.iload_n 1, 1) := by decide +kernel
theorem d_Person_learn_7 : decode (mC m_Person_learn) 7 = .ok (.ishl, 1) := by decide +kernel
theorem d_Person_learn_8 : decode (mC m_Person_learn) 8 = .ok (.ior, 1) := by decide +kernel
theorem d_Person_learn_9 : decode (mC m_Person_learn) 9 = .ok (.putfield 53, 3) := by decide +kernel
theorem d_Person_learn_12 : decode (mC m_Person_learn) 12 = .ok (.aload_n 0, 1) := by decide +kernel
theorem d_Person_learn_13 : decode (mC m_Person_learn) 13 = .ok (.dup, 1) := by decide +kernel
theorem d_Person_learn_14 : decode (mC m_Person_learn) 14 = .ok (.getfield 56, 3) := by decide +kernel
theorem d_Person_learn_17 : decode (mC m_Person_learn) 17 = .ok (.iconst 1, 1) := by decide +kernel
theorem d_Person_learn_18 : decode (mC m_Person_learn) 18 = .ok (.iload_n 2, 1) := by decide +kernel
theorem d_Person_learn_19 : decode (mC m_Person_learn) 19 = .ok (.ishl, 1) := by decide +kernel
theorem d_Person_learn_20 : decode (mC m_Person_learn) 20 = .ok (.ior, 1) := by decide +kernel
theorem d_Person_learn_21 : decode (mC m_Person_learn) 21 = .ok (.putfield 56, 3) := by decide +kernel
theorem d_Person_learn_24 : decode (mC m_Person_learn) 24 = .ok (.return_, 1) := by decide +kernel
theorem d_K_grant_0 : decode (mC m_K_grant) 0 = .ok (.aload_n 1, 1) := by decide +kernel
theorem d_K_grant_1 : decode (mC m_K_grant) 1 = .ok (.iconst 1, 1) := by decide +kernel
theorem d_K_grant_2 : decode (mC m_K_grant) 2 = .ok (.putfield 179, 3) := by decide +kernel
theorem d_K_grant_5 : decode (mC m_K_grant) 5 = .ok (.aload_n 1, 1) := by decide +kernel
theorem d_K_grant_6 : decode (mC m_K_grant) 6 = .ok (.aload_n 0, 1) := by decide +kernel
theorem d_K_grant_7 : decode (mC m_K_grant) 7 = .ok (.aload_n 1, 1) := by decide +kernel
theorem d_K_grant_8 : decode (mC m_K_grant) 8 = .ok (.getfield 481, 3) := by decide +kernel
theorem d_K_grant_11 : decode (mC m_K_grant) 11 = .ok (.aconst_null, 1) := by decide +kernel
theorem d_K_grant_12 : decode (mC m_K_grant) 12 = .ok (.aload_n 1, 1) := by decide +kernel
theorem d_K_grant_13 : decode (mC m_K_grant) 13 = .ok (.getfield 482, 3) := by decide +kernel
theorem d_K_grant_16 : decode (mC m_K_grant) 16 = .ok (.invokevirtual 249, 3) := by decide +kernel
theorem d_K_grant_19 : decode (mC m_K_grant) 19 = .ok (.putfield 195, 3) := by decide +kernel
theorem d_K_grant_22 : decode (mC m_K_grant) 22 = .ok (.aload_n 1, 1) := by decide +kernel
theorem d_K_grant_23 : decode (mC m_K_grant) 23 = .ok (.getfield 481, 3) := by decide +kernel
theorem d_K_grant_26 : decode (mC m_K_grant) 26 = .ok (.aload_n 1, 1) := by decide +kernel
theorem d_K_grant_27 : decode (mC m_K_grant) 27 = .ok (.getfield 510, 3) := by decide +kernel
theorem d_K_grant_30 : decode (mC m_K_grant) 30 = .ok (.aload_n 1, 1) := by decide +kernel
theorem d_K_grant_31 : decode (mC m_K_grant) 31 = .ok (.getfield 513, 3) := by decide +kernel
theorem d_K_grant_34 : decode (mC m_K_grant) 34 = .ok (.invokevirtual 516, 3) := by decide +kernel
theorem d_K_grant_37 : decode (mC m_K_grant) 37 = .ok (.return_, 1) := by decide +kernel
theorem d_K_goOn_0 : decode (mC m_K_goOn) 0 = .ok (.iload_n 2, 1) := by decide +kernel
theorem d_K_goOn_1 : decode (mC m_K_goOn) 1 = .ok (.istore_n 3, 1) := by decide +kernel
theorem d_K_goOn_2 : decode (mC m_K_goOn) 2 = .ok (.iconst 0, 1) := by decide +kernel
theorem d_K_goOn_3 : decode (mC m_K_goOn) 3 = .ok (.istore 4, 2) := by decide +kernel
theorem d_K_goOn_5 : decode (mC m_K_goOn) 5 = .ok (.iload 4, 2) := by decide +kernel
theorem d_K_goOn_7 : decode (mC m_K_goOn) 7 = .ok (.bipush (12), 2) := by decide +kernel
theorem d_K_goOn_9 : decode (mC m_K_goOn) 9 = .ok (.if_icmp .ge (35), 3) := by decide +kernel
theorem d_K_goOn_12 : decode (mC m_K_goOn) 12 = .ok (.aload_n 1, 1) := by decide +kernel
theorem d_K_goOn_13 : decode (mC m_K_goOn) 13 = .ok (.getfield 186, 3) := by decide +kernel
theorem d_K_goOn_16 : decode (mC m_K_goOn) 16 = .ok (.iload_n 3, 1) := by decide +kernel
theorem d_K_goOn_17 : decode (mC m_K_goOn) 17 = .ok (.invokevirtual 493, 3) := by decide +kernel
theorem d_K_goOn_20 : decode (mC m_K_goOn) 20 = .ok (.ifCond .eq (24), 3) := by decide +kernel
theorem d_K_goOn_23 : decode (mC m_K_goOn) 23 = .ok (.aload_n 1, 1) := by decide +kernel
theorem d_K_goOn_24 : decode (mC m_K_goOn) 24 = .ok (.getfield 186, 3) := by decide +kernel
theorem d_K_goOn_27 : decode (mC m_K_goOn) 27 = .ok (.iload_n 3, 1) := by decide +kernel
theorem d_K_goOn_28 : decode (mC m_K_goOn) 28 = .ok (.aload_n 0, 1) := by decide +kernel
theorem d_K_goOn_29 : decode (mC m_K_goOn) 29 = .ok (.aload_n 1, 1) := by decide +kernel
theorem d_K_goOn_30 : decode (mC m_K_goOn) 30 = .ok (.iload_n 3, 1) := by decide +kernel
theorem d_K_goOn_31 : decode (mC m_K_goOn) 31 = .ok (.invokevirtual 496, 3) := by decide +kernel
theorem d_K_goOn_34 : decode (mC m_K_goOn) 34 = .ok (.invokevirtual 483, 3) := by decide +kernel
theorem d_K_goOn_37 : decode (mC m_K_goOn) 37 = .ok (.istore_n 3, 1) := by decide +kernel
theorem d_K_goOn_38 : decode (mC m_K_goOn) 38 = .ok (.iinc 4 (1), 3) := by decide +kernel
theorem d_K_goOn_41 : decode (mC m_K_goOn) 41 = .ok (.goto (-36), 3) := by decide +kernel
theorem d_K_goOn_44 : decode (mC m_K_goOn) 44 = .ok (.aload_n 1, 1) := by decide +kernel
theorem d_K_goOn_45 : decode (mC m_K_goOn) 45 = .ok (.getfield 186, 3) := by decide +kernel
theorem d_K_goOn_48 : decode (mC m_K_goOn) 48 = .ok (.iload_n 3, 1) := by decide +kernel
theorem d_K_goOn_49 : decode (mC m_K_goOn) 49 = .ok (.invokevirtual 500, 3) := by decide +kernel
theorem d_K_goOn_52 : decode (mC m_K_goOn) 52 = .ok (.istore 4, 2) := by decide +kernel
theorem d_K_goOn_54 : decode (mC m_K_goOn) 54 = .ok (.iload 4, 2) := by decide +kernel
theorem d_K_goOn_56 : decode (mC m_K_goOn) 56 = .ok (.ifCond .ne (11), 3) := by decide +kernel
theorem d_K_goOn_59 : decode (mC m_K_goOn) 59 = .ok (.aload_n 1, 1) := by decide +kernel
theorem d_K_goOn_60 : decode (mC m_K_goOn) 60 = .ok (.iload_n 3, 1) := by decide +kernel
theorem d_K_goOn_61 : decode (mC m_K_goOn) 61 = .ok (.invokevirtual 503, 3) := by decide +kernel
theorem d_K_goOn_64 : decode (mC m_K_goOn) 64 = .ok (.goto (34), 3) := by decide +kernel
theorem d_K_goOn_67 : decode (mC m_K_goOn) 67 = .ok (.iload 4, 2) := by decide +kernel
theorem d_K_goOn_69 : decode (mC m_K_goOn) 69 = .ok (.iconst 5, 1) := by decide +kernel
theorem d_K_goOn_70 : decode (mC m_K_goOn) 70 = .ok (.if_icmp .ne (23), 3) := by decide +kernel
theorem d_K_goOn_73 : decode (mC m_K_goOn) 73 = .ok (.aload_n 0, 1) := by decide +kernel
theorem d_K_goOn_74 : decode (mC m_K_goOn) 74 = .ok (.getfield 46, 3) := by decide +kernel
theorem d_K_goOn_77 : decode (mC m_K_goOn) 77 = .ok (.invokevirtual 134, 3) := by decide +kernel
theorem d_K_goOn_80 : decode (mC m_K_goOn) 80 = .ok (.bipush (60), 2) := by decide +kernel
theorem d_K_goOn_82 : decode (mC m_K_goOn) 82 = .ok (.if_icmp .ge (11), 3) := by decide +kernel
theorem d_K_goOn_85 : decode (mC m_K_goOn) 85 = .ok (.aload_n 0, 1) := by decide +kernel
theorem d_K_goOn_86 : decode (mC m_K_goOn) 86 = .ok (.aload_n 1, 1) := by decide +kernel
theorem d_K_goOn_87 : decode (mC m_K_goOn) 87 = .ok (.invokevirtual 506, 3) := by decide +kernel
theorem d_K_goOn_90 : decode (mC m_K_goOn) 90 = .ok (.goto (8), 3) := by decide +kernel
theorem d_K_goOn_93 : decode (mC m_K_goOn) 93 = .ok (.aload_n 1, 1) := by decide +kernel
theorem d_K_goOn_94 : decode (mC m_K_goOn) 94 = .ok (.iconst 2, 1) := by decide +kernel
theorem d_K_goOn_95 : decode (mC m_K_goOn) 95 = .ok (.putfield 179, 3) := by decide +kernel
theorem d_K_goOn_98 : decode (mC m_K_goOn) 98 = .ok (.return_, 1) := by decide +kernel
theorem d_K_begin_0 : decode (mC m_K_begin) 0 = .ok (.aload_n 0, 1) := by decide +kernel
theorem d_K_begin_1 : decode (mC m_K_begin) 1 = .ok (.iload_n 1, 1) := by decide +kernel
theorem d_K_begin_2 : decode (mC m_K_begin) 2 = .ok (.invokevirtual 108, 3) := by decide +kernel
theorem d_K_begin_5 : decode (mC m_K_begin) 5 = .ok (.astore 4, 2) := by decide +kernel
theorem d_K_begin_7 : decode (mC m_K_begin) 7 = .ok (.iload_n 2, 1) := by decide +kernel
theorem d_K_begin_8 : decode (mC m_K_begin) 8 = .ok (.bipush (6), 2) := by decide +kernel
theorem d_K_begin_10 : decode (mC m_K_begin) 10 = .ok (.invokestatic 148, 3) := by decide +kernel
theorem d_K_begin_13 : decode (mC m_K_begin) 13 = .ok (.iload_n 3, 1) := by decide +kernel
theorem d_K_begin_14 : decode (mC m_K_begin) 14 = .ok (.bipush (6), 2) := by decide +kernel
theorem d_K_begin_16 : decode (mC m_K_begin) 16 = .ok (.invokestatic 148, 3) := by decide +kernel
theorem d_K_begin_19 : decode (mC m_K_begin) 19 = .ok (.aload_n 0, 1) := by decide +kernel
theorem d_K_begin_20 : decode (mC m_K_begin) 20 = .ok (.getfield 39, 3) := by decide +kernel
theorem d_K_begin_23 : decode (mC m_K_begin) 23 = .ok (.invokevirtual 159, 3) := by decide +kernel
theorem d_K_begin_26 : decode (mC m_K_begin) 26 = .ok (.ifCond .ne (27), 3) := by decide +kernel
theorem d_K_begin_29 : decode (mC m_K_begin) 29 = .ok (.aload 4, 2) := by decide +kernel
theorem d_K_begin_31 : decode (mC m_K_begin) 31 = .ok (.getfield 162, 3) := by decide +kernel
theorem d_K_begin_34 : decode (mC m_K_begin) 34 = .ok (.ifCond .ne (19), 3) := by decide +kernel
theorem d_K_begin_37 : decode (mC m_K_begin) 37 = .ok (.aload_n 0, 1) := by decide +kernel
theorem d_K_begin_38 : decode (mC m_K_begin) 38 = .ok (.getfield 43, 3) := by decide +kernel
theorem d_K_begin_41 : decode (mC m_K_begin) 41 = .ok (.invokevirtual 134, 3) := by decide +kernel
theorem d_K_begin_44 : decode (mC m_K_begin) 44 = .ok (.bipush (60), 2) := by decide +kernel
theorem d_K_begin_46 : decode (mC m_K_begin) 46 = .ok (.if_icmp .ge (7), 3) := by decide +kernel
theorem d_K_begin_49 : decode (mC m_K_begin) 49 = .ok (.iconst 1, 1) := by decide +kernel
theorem d_K_begin_50 : decode (mC m_K_begin) 50 = .ok (.goto (4), 3) := by decide +kernel
theorem d_K_begin_53 : decode (mC m_K_begin) 53 = .ok (.iconst 0, 1) := by decide +kernel
theorem d_K_begin_54 : decode (mC m_K_begin) 54 = .ok (.invokestatic 96, 3) := by decide +kernel
theorem d_K_begin_57 : decode (mC m_K_begin) 57 = .ok (.new 166, 3) := by decide +kernel
theorem d_K_begin_60 : decode (mC m_K_begin) 60 = .ok (.dup, 1) := by decide +kernel
theorem d_K_begin_61 : decode (mC m_K_begin) 61 = .ok (.aload 4, 2) := by decide +kernel
theorem d_K_begin_63 : decode (mC m_K_begin) 63 = .ok (.iload_n 2, 1) := by decide +kernel
theorem d_K_begin_64 : decode (mC m_K_begin) 64 = .ok (.iload_n 3, 1) := by decide +kernel
theorem d_K_begin_65 : decode (mC m_K_begin) 65 = .ok (.aload_n 0, 1) := by decide +kernel
theorem d_K_begin_66 : decode (mC m_K_begin) 66 = .ok (.getfield 39, 3) := by decide +kernel
theorem d_K_begin_69 : decode (mC m_K_begin) 69 = .ok (.aload_n 0, 1) := by decide +kernel
theorem d_K_begin_70 : decode (mC m_K_begin) 70 = .ok (.getfield 39, 3) := by decide +kernel
theorem d_K_begin_73 : decode (mC m_K_begin) 73 = .ok (.invokevirtual 134, 3) := by decide +kernel
theorem d_K_begin_76 : decode (mC m_K_begin) 76 = .ok (.iconst 1, 1) := by decide +kernel
theorem d_K_begin_77 : decode (mC m_K_begin) 77 = .ok (.isub, 1) := by decide +kernel
theorem d_K_begin_78 : decode (mC m_K_begin) 78 = .ok (.invokevirtual 152, 3) := by decide +kernel
theorem d_K_begin_81 : decode (mC m_K_begin) 81 = .ok (.checkcast 29, 3) := by decide +kernel
theorem d_K_begin_84 : decode (mC m_K_begin) 84 = .ok (.invokespecial 168, 3) := by decide +kernel
theorem d_K_begin_87 : decode (mC m_K_begin) 87 = .ok (.astore 5, 2) := by decide +kernel
theorem d_K_begin_89 : decode (mC m_K_begin) 89 = .ok (.aload_n 0, 1) := by decide +kernel
theorem d_K_begin_90 : decode (mC m_K_begin) 90 = .ok (.getfield 43, 3) := by decide +kernel
theorem d_K_begin_93 : decode (mC m_K_begin) 93 = .ok (.aload 5, 2) := by decide +kernel
theorem d_K_begin_95 : decode (mC m_K_begin) 95 = .ok (.invokevirtual 145, 3) := by decide +kernel
theorem d_K_begin_98 : decode (mC m_K_begin) 98 = .ok (.pop, 1) := by decide +kernel
theorem d_K_begin_99 : decode (mC m_K_begin) 99 = .ok (.aload_n 0, 1) := by decide +kernel
theorem d_K_begin_100 : decode (mC m_K_begin) 100 = .ok (.aload 5, 2) := by decide +kernel
theorem d_K_begin_102 : decode (mC m_K_begin) 102 = .ok (.iconst 0, 1) := by decide +kernel
theorem d_K_begin_103 : decode (mC m_K_begin) 103 = .ok (.invokevirtual 171, 3) := by decide +kernel
theorem d_K_begin_106 : decode (mC m_K_begin) 106 = .ok (.aload_n 0, 1) := by decide +kernel
theorem d_K_begin_107 : decode (mC m_K_begin) 107 = .ok (.getfield 43, 3) := by decide +kernel
theorem d_K_begin_110 : decode (mC m_K_begin) 110 = .ok (.invokevirtual 134, 3) := by decide +kernel
theorem d_K_begin_113 : decode (mC m_K_begin) 113 = .ok (.iconst 1, 1) := by decide +kernel
theorem d_K_begin_114 : decode (mC m_K_begin) 114 = .ok (.isub, 1) := by decide +kernel
theorem d_K_begin_115 : decode (mC m_K_begin) 115 = .ok (.ireturn, 1) := by decide +kernel
theorem d_W_begin_0 : decode (mC m_W_begin) 0 = .ok (.aload 4, 2) := by decide +kernel
theorem d_W_begin_2 : decode (mC m_W_begin) 2 = .ok (.iconst 0, 1) := by decide +kernel
theorem d_W_begin_3 : decode (mC m_W_begin) 3 = .ok (.aload_n 0, 1) := by decide +kernel
theorem d_W_begin_4 : decode (mC m_W_begin) 4 = .ok (.iload_n 1, 1) := by decide +kernel
theorem d_W_begin_5 : decode (mC m_W_begin) 5 = .ok (.iload_n 2, 1) := by decide +kernel
theorem d_W_begin_6 : decode (mC m_W_begin) 6 = .ok (.iload_n 3, 1) := by decide +kernel
theorem d_W_begin_7 : decode (mC m_W_begin) 7 = .ok (.invokevirtual 41, 3) := by decide +kernel
theorem d_W_begin_10 : decode (mC m_W_begin) 10 = .ok (.i2l, 1) := by decide +kernel
theorem d_W_begin_11 : decode (mC m_W_begin) 11 = .ok (.lastore, 1) := by decide +kernel
theorem d_W_begin_12 : decode (mC m_W_begin) 12 = .ok (.goto (11), 3) := by decide +kernel
theorem d_W_begin_15 : decode (mC m_W_begin) 15 = .ok (.astore 5, 2) := by decide +kernel
theorem d_W_begin_17 : decode (mC m_W_begin) 17 = .ok (.iconst 1, 1) := by decide +kernel
theorem d_W_begin_18 : decode (mC m_W_begin) 18 = .ok (.ireturn, 1) := by decide +kernel
theorem d_W_begin_19 : decode (mC m_W_begin) 19 = .ok (.astore 5, 2) := by decide +kernel
theorem d_W_begin_21 : decode (mC m_W_begin) 21 = .ok (.iconst 2, 1) := by decide +kernel
theorem d_W_begin_22 : decode (mC m_W_begin) 22 = .ok (.ireturn, 1) := by decide +kernel
theorem d_W_begin_23 : decode (mC m_W_begin) 23 = .ok (.iconst 0, 1) := by decide +kernel
theorem d_W_begin_24 : decode (mC m_W_begin) 24 = .ok (.ireturn, 1) := by decide +kernel
theorem d_M_wrongs_0 : decode (mC m_M_wrongs) 0 = .ok (.iconst 0, 1) := by decide +kernel
theorem d_M_wrongs_1 : decode (mC m_M_wrongs) 1 = .ok (.istore_n 2, 1) := by decide +kernel
theorem d_M_wrongs_2 : decode (mC m_M_wrongs) 2 = .ok (.iconst 0, 1) := by decide +kernel
theorem d_M_wrongs_3 : decode (mC m_M_wrongs) 3 = .ok (.istore_n 3, 1) := by decide +kernel
theorem d_M_wrongs_4 : decode (mC m_M_wrongs) 4 = .ok (.iload_n 3, 1) := by decide +kernel
theorem d_M_wrongs_5 : decode (mC m_M_wrongs) 5 = .ok (.iconst 3, 1) := by decide +kernel
theorem d_M_wrongs_6 : decode (mC m_M_wrongs) 6 = .ok (.if_icmp .ge (37), 3) := by decide +kernel
theorem d_M_wrongs_9 : decode (mC m_M_wrongs) 9 = .ok (.iload_n 2, 1) := by decide +kernel
theorem d_M_wrongs_10 : decode (mC m_M_wrongs) 10 = .ok (.aload_n 0, 1) := by decide +kernel
theorem d_M_wrongs_11 : decode (mC m_M_wrongs) 11 = .ok (.getfield 247, 3) := by decide +kernel
theorem d_M_wrongs_14 : decode (mC m_M_wrongs) 14 = .ok (.aload_n 0, 1) := by decide +kernel
theorem d_M_wrongs_15 : decode (mC m_M_wrongs) 15 = .ok (.getfield 19, 3) := by decide +kernel
theorem d_M_wrongs_18 : decode (mC m_M_wrongs) 18 = .ok (.iconst 3, 1) := by decide +kernel
theorem d_M_wrongs_19 : decode (mC m_M_wrongs) 19 = .ok (.iload_n 1, 1) := by decide +kernel
theorem d_M_wrongs_20 : decode (mC m_M_wrongs) 20 = .ok (.imul, 1) := by decide +kernel
theorem d_M_wrongs_21 : decode (mC m_M_wrongs) 21 = .ok (.iload_n 3, 1) := by decide +kernel
theorem d_M_wrongs_22 : decode (mC m_M_wrongs) 22 = .ok (.iadd, 1) := by decide +kernel
theorem d_M_wrongs_23 : decode (mC m_M_wrongs) 23 = .ok (.iaload, 1) := by decide +kernel
theorem d_M_wrongs_24 : decode (mC m_M_wrongs) 24 = .ok (.isub, 1) := by decide +kernel
theorem d_M_wrongs_25 : decode (mC m_M_wrongs) 25 = .ok (.bipush (60), 2) := by decide +kernel
theorem d_M_wrongs_27 : decode (mC m_M_wrongs) 27 = .ok (.if_icmp .ge (7), 3) := by decide +kernel
theorem d_M_wrongs_30 : decode (mC m_M_wrongs) 30 = .ok (.iconst 1, 1) := by decide +kernel
theorem d_M_wrongs_31 : decode (mC m_M_wrongs) 31 = .ok (.goto (4), 3) := by decide +kernel
theorem d_M_wrongs_34 : decode (mC m_M_wrongs) 34 = .ok (.iconst 0, 1) := by decide +kernel
theorem d_M_wrongs_35 : decode (mC m_M_wrongs) 35 = .ok (.iadd, 1) := by decide +kernel
theorem d_M_wrongs_36 : decode (mC m_M_wrongs) 36 = .ok (.istore_n 2, 1) := by decide +kernel
theorem d_M_wrongs_37 : decode (mC m_M_wrongs) 37 = .ok (.iinc 3 (1), 3) := by decide +kernel
theorem d_M_wrongs_40 : decode (mC m_M_wrongs) 40 = .ok (.goto (-36), 3) := by decide +kernel
theorem d_M_wrongs_43 : decode (mC m_M_wrongs) 43 = .ok (.iload_n 2, 1) := by decide +kernel
theorem d_M_wrongs_44 : decode (mC m_M_wrongs) 44 = .ok (.ireturn, 1) := by decide +kernel
theorem d_M_pointsOf_0 : decode (mC m_M_pointsOf) 0 = .ok (.iload_n 2, 1) := by decide +kernel
theorem d_M_pointsOf_1 : decode (mC m_M_pointsOf) 1 = .ok (.ifCond .eq (22), 3) := by decide +kernel
theorem d_M_pointsOf_4 : decode (mC m_M_pointsOf) 4 = .ok (.aload_n 0, 1) := by decide +kernel
theorem d_M_pointsOf_5 : decode (mC m_M_pointsOf) 5 = .ok (.getfield 59, 3) := by decide +kernel
theorem d_M_pointsOf_8 : decode (mC m_M_pointsOf) 8 = .ok (.iload_n 1, 1) := by decide +kernel
theorem d_M_pointsOf_9 : decode (mC m_M_pointsOf) 9 = .ok (.iaload, 1) := by decide +kernel
theorem d_M_pointsOf_10 : decode (mC m_M_pointsOf) 10 = .ok (.iconst (-1), 1) := by decide +kernel
theorem d_M_pointsOf_11 : decode (mC m_M_pointsOf) 11 = .ok (.if_icmp .eq (12), 3) := by decide +kernel
theorem d_M_pointsOf_14 : decode (mC m_M_pointsOf) 14 = .ok (.aload_n 0, 1) := by decide +kernel
theorem d_M_pointsOf_15 : decode (mC m_M_pointsOf) 15 = .ok (.getfield 59, 3) := by decide +kernel
theorem d_M_pointsOf_18 : decode (mC m_M_pointsOf) 18 = .ok (.iload_n 1, 1) := by decide +kernel
theorem d_M_pointsOf_19 : decode (mC m_M_pointsOf) 19 = .ok (.iaload, 1) := by decide +kernel
theorem d_M_pointsOf_20 : decode (mC m_M_pointsOf) 20 = .ok (.goto (9), 3) := by decide +kernel
theorem d_M_pointsOf_23 : decode (mC m_M_pointsOf) 23 = .ok (.aload_n 0, 1) := by decide +kernel
theorem d_M_pointsOf_24 : decode (mC m_M_pointsOf) 24 = .ok (.getfield 56, 3) := by decide +kernel
theorem d_M_pointsOf_27 : decode (mC m_M_pointsOf) 27 = .ok (.iload_n 1, 1) := by decide +kernel
theorem d_M_pointsOf_28 : decode (mC m_M_pointsOf) 28 = .ok (.iaload, 1) := by decide +kernel
theorem d_M_pointsOf_29 : decode (mC m_M_pointsOf) 29 = .ok (.ireturn, 1) := by decide +kernel
theorem d_M_riskOf_0 : decode (mC m_M_riskOf) 0 = .ok (.aload_n 0, 1) := by decide +kernel
theorem d_M_riskOf_1 : decode (mC m_M_riskOf) 1 = .ok (.getfield 62, 3) := by decide +kernel
theorem d_M_riskOf_4 : decode (mC m_M_riskOf) 4 = .ok (.iload_n 1, 1) := by decide +kernel
theorem d_M_riskOf_5 : decode (mC m_M_riskOf) 5 = .ok (.iaload, 1) := by decide +kernel
theorem d_M_riskOf_6 : decode (mC m_M_riskOf) 6 = .ok (.istore_n 3, 1) := by decide +kernel
theorem d_M_riskOf_7 : decode (mC m_M_riskOf) 7 = .ok (.aload_n 0, 1) := by decide +kernel
theorem d_M_riskOf_8 : decode (mC m_M_riskOf) 8 = .ok (.iload_n 3, 1) := by decide +kernel
theorem d_M_riskOf_9 : decode (mC m_M_riskOf) 9 = .ok (.invokevirtual 315, 3) := by decide +kernel
theorem d_M_riskOf_12 : decode (mC m_M_riskOf) 12 = .ok (.aload_n 0, 1) := by decide +kernel
theorem d_M_riskOf_13 : decode (mC m_M_riskOf) 13 = .ok (.iconst 2, 1) := by decide +kernel
theorem d_M_riskOf_14 : decode (mC m_M_riskOf) 14 = .ok (.iload_n 2, 1) := by decide +kernel
theorem d_M_riskOf_15 : decode (mC m_M_riskOf) 15 = .ok (.invokevirtual 318, 3) := by decide +kernel
theorem d_M_riskOf_18 : decode (mC m_M_riskOf) 18 = .ok (.imul, 1) := by decide +kernel
theorem d_M_riskOf_19 : decode (mC m_M_riskOf) 19 = .ok (.istore 4, 2) := by decide +kernel
theorem d_M_riskOf_21 : decode (mC m_M_riskOf) 21 = .ok (.iload 4, 2) := by decide +kernel
theorem d_M_riskOf_23 : decode (mC m_M_riskOf) 23 = .ok (.aload_n 0, 1) := by decide +kernel
theorem d_M_riskOf_24 : decode (mC m_M_riskOf) 24 = .ok (.getfield 22, 3) := by decide +kernel
theorem d_M_riskOf_27 : decode (mC m_M_riskOf) 27 = .ok (.bipush (6), 2) := by decide +kernel
theorem d_M_riskOf_29 : decode (mC m_M_riskOf) 29 = .ok (.iload_n 3, 1) := by decide +kernel
theorem d_M_riskOf_30 : decode (mC m_M_riskOf) 30 = .ok (.imul, 1) := by decide +kernel
theorem d_M_riskOf_31 : decode (mC m_M_riskOf) 31 = .ok (.aload_n 0, 1) := by decide +kernel
theorem d_M_riskOf_32 : decode (mC m_M_riskOf) 32 = .ok (.getfield 65, 3) := by decide +kernel
theorem d_M_riskOf_35 : decode (mC m_M_riskOf) 35 = .ok (.iload_n 1, 1) := by decide +kernel
theorem d_M_riskOf_36 : decode (mC m_M_riskOf) 36 = .ok (.iaload, 1) := by decide +kernel
theorem d_M_riskOf_37 : decode (mC m_M_riskOf) 37 = .ok (.iadd, 1) := by decide +kernel
theorem d_M_riskOf_38 : decode (mC m_M_riskOf) 38 = .ok (.baload, 1) := by decide +kernel
theorem d_M_riskOf_39 : decode (mC m_M_riskOf) 39 = .ok (.ifCond .eq (7), 3) := by decide +kernel
theorem d_M_riskOf_42 : decode (mC m_M_riskOf) 42 = .ok (.iconst 0, 1) := by decide +kernel
theorem d_M_riskOf_43 : decode (mC m_M_riskOf) 43 = .ok (.goto (9), 3) := by decide +kernel
theorem d_M_riskOf_46 : decode (mC m_M_riskOf) 46 = .ok (.aload_n 0, 1) := by decide +kernel
theorem d_M_riskOf_47 : decode (mC m_M_riskOf) 47 = .ok (.iconst 0, 1) := by decide +kernel
theorem d_M_riskOf_48 : decode (mC m_M_riskOf) 48 = .ok (.iload_n 2, 1) := by decide +kernel
theorem d_M_riskOf_49 : decode (mC m_M_riskOf) 49 = .ok (.invokevirtual 318, 3) := by decide +kernel
theorem d_M_riskOf_52 : decode (mC m_M_riskOf) 52 = .ok (.iadd, 1) := by decide +kernel
theorem d_M_riskOf_53 : decode (mC m_M_riskOf) 53 = .ok (.istore 4, 2) := by decide +kernel
theorem d_M_riskOf_55 : decode (mC m_M_riskOf) 55 = .ok (.iload 4, 2) := by decide +kernel
theorem d_M_riskOf_57 : decode (mC m_M_riskOf) 57 = .ok (.aload_n 0, 1) := by decide +kernel
theorem d_M_riskOf_58 : decode (mC m_M_riskOf) 58 = .ok (.getfield 26, 3) := by decide +kernel
theorem d_M_riskOf_61 : decode (mC m_M_riskOf) 61 = .ok (.bipush (6), 2) := by decide +kernel
theorem d_M_riskOf_63 : decode (mC m_M_riskOf) 63 = .ok (.iload_n 3, 1) := by decide +kernel
theorem d_M_riskOf_64 : decode (mC m_M_riskOf) 64 = .ok (.imul, 1) := by decide +kernel
theorem d_M_riskOf_65 : decode (mC m_M_riskOf) 65 = .ok (.aload_n 0, 1) := by decide +kernel
theorem d_M_riskOf_66 : decode (mC m_M_riskOf) 66 = .ok (.getfield 68, 3) := by decide +kernel
theorem d_M_riskOf_69 : decode (mC m_M_riskOf) 69 = .ok (.iload_n 1, 1) := by decide +kernel
theorem d_M_riskOf_70 : decode (mC m_M_riskOf) 70 = .ok (.iaload, 1) := by decide +kernel
theorem d_M_riskOf_71 : decode (mC m_M_riskOf) 71 = .ok (.iadd, 1) := by decide +kernel
theorem d_M_riskOf_72 : decode (mC m_M_riskOf) 72 = .ok (.baload, 1) := by decide +kernel
theorem d_M_riskOf_73 : decode (mC m_M_riskOf) 73 = .ok (.ifCond .eq (7), 3) := by decide +kernel
theorem d_M_riskOf_76 : decode (mC m_M_riskOf) 76 = .ok (.iconst 0, 1) := by decide +kernel
theorem d_M_riskOf_77 : decode (mC m_M_riskOf) 77 = .ok (.goto (9), 3) := by decide +kernel
theorem d_M_riskOf_80 : decode (mC m_M_riskOf) 80 = .ok (.aload_n 0, 1) := by decide +kernel
theorem d_M_riskOf_81 : decode (mC m_M_riskOf) 81 = .ok (.iconst 1, 1) := by decide +kernel
theorem d_M_riskOf_82 : decode (mC m_M_riskOf) 82 = .ok (.iload_n 2, 1) := by decide +kernel
theorem d_M_riskOf_83 : decode (mC m_M_riskOf) 83 = .ok (.invokevirtual 318, 3) := by decide +kernel
theorem d_M_riskOf_86 : decode (mC m_M_riskOf) 86 = .ok (.iadd, 1) := by decide +kernel
theorem d_M_riskOf_87 : decode (mC m_M_riskOf) 87 = .ok (.ireturn, 1) := by decide +kernel
theorem d_M_shownIn_0 : decode (mC m_M_shownIn) 0 = .ok (.iconst 0, 1) := by decide +kernel
theorem d_M_shownIn_1 : decode (mC m_M_shownIn) 1 = .ok (.istore_n 2, 1) := by decide +kernel
theorem d_M_shownIn_2 : decode (mC m_M_shownIn) 2 = .ok (.iconst 0, 1) := by decide +kernel
theorem d_M_shownIn_3 : decode (mC m_M_shownIn) 3 = .ok (.istore_n 3, 1) := by decide +kernel
theorem d_M_shownIn_4 : decode (mC m_M_shownIn) 4 = .ok (.iload_n 3, 1) := by decide +kernel
theorem d_M_shownIn_5 : decode (mC m_M_shownIn) 5 = .ok (.iconst 3, 1) := by decide +kernel
theorem d_M_shownIn_6 : decode (mC m_M_shownIn) 6 = .ok (.if_icmp .ge (33), 3) := by decide +kernel
theorem d_M_shownIn_9 : decode (mC m_M_shownIn) 9 = .ok (.iload_n 2, 1) := by decide +kernel
theorem d_M_shownIn_10 : decode (mC m_M_shownIn) 10 = .ok (.aload_n 0, 1) := by decide +kernel
theorem d_M_shownIn_11 : decode (mC m_M_shownIn) 11 = .ok (.getfield 89, 3) := by decide +kernel
theorem d_M_shownIn_14 : decode (mC m_M_shownIn) 14 = .ok (.iconst 3, 1) := by decide +kernel
theorem d_M_shownIn_15 : decode (mC m_M_shownIn) 15 = .ok (.iload_n 1, 1) := by decide +kernel
theorem d_M_shownIn_16 : decode (mC m_M_shownIn) 16 = .ok (.imul, 1) := by decide +kernel
theorem d_M_shownIn_17 : decode (mC m_M_shownIn) 17 = .ok (.iload_n 3, 1) := by decide +kernel
theorem d_M_shownIn_18 : decode (mC m_M_shownIn) 18 = .ok (.iadd, 1) := by decide +kernel
theorem d_M_shownIn_19 : decode (mC m_M_shownIn) 19 = .ok (.iaload, 1) := by decide +kernel
theorem d_M_shownIn_20 : decode (mC m_M_shownIn) 20 = .ok (.iconst (-1), 1) := by decide +kernel
theorem d_M_shownIn_21 : decode (mC m_M_shownIn) 21 = .ok (.if_icmp .eq (9), 3) := by decide +kernel
theorem d_M_shownIn_24 : decode (mC m_M_shownIn) 24 = .ok (.iconst 1, 1) := by decide +kernel
theorem d_M_shownIn_25 : decode (mC m_M_shownIn) 25 = .ok (.iload_n 3, 1) := by decide +kernel
theorem d_M_shownIn_26 : decode (mC m_M_shownIn) 26 = .ok (.ishl, 1) := by decide +kernel
theorem d_M_shownIn_27 : decode (mC m_M_shownIn) 27 = .ok (.goto (4), 3) := by decide +kernel
theorem d_M_shownIn_30 : decode (mC m_M_shownIn) 30 = .ok (.iconst 0, 1) := by decide +kernel
theorem d_M_shownIn_31 : decode (mC m_M_shownIn) 31 = .ok (.ior, 1) := by decide +kernel
theorem d_M_shownIn_32 : decode (mC m_M_shownIn) 32 = .ok (.istore_n 2, 1) := by decide +kernel
theorem d_M_shownIn_33 : decode (mC m_M_shownIn) 33 = .ok (.iinc 3 (1), 3) := by decide +kernel
theorem d_M_shownIn_36 : decode (mC m_M_shownIn) 36 = .ok (.goto (-32), 3) := by decide +kernel
theorem d_M_shownIn_39 : decode (mC m_M_shownIn) 39 = .ok (.iload_n 2, 1) := by decide +kernel
theorem d_M_shownIn_40 : decode (mC m_M_shownIn) 40 = .ok (.ireturn, 1) := by decide +kernel
theorem d_M_holds_0 : decode (mC m_M_holds) 0 = .ok (.aload_n 0, 1) := by decide +kernel
theorem d_M_holds_1 : decode (mC m_M_holds) 1 = .ok (.getfield 62, 3) := by decide +kernel
theorem d_M_holds_4 : decode (mC m_M_holds) 4 = .ok (.iload_n 1, 1) := by decide +kernel
theorem d_M_holds_5 : decode (mC m_M_holds) 5 = .ok (.iaload, 1) := by decide +kernel
theorem d_M_holds_6 : decode (mC m_M_holds) 6 = .ok (.istore_n 3, 1) := by decide +kernel
theorem d_M_holds_7 : decode (mC m_M_holds) 7 = .ok (.aload_n 0, 1) := by decide +kernel
theorem d_M_holds_8 : decode (mC m_M_holds) 8 = .ok (.getfield 38, 3) := by decide +kernel
theorem d_M_holds_11 : decode (mC m_M_holds) 11 = .ok (.iload_n 2, 1) := by decide +kernel
theorem d_M_holds_12 : decode (mC m_M_holds) 12 = .ok (.iaload, 1) := by decide +kernel
theorem d_M_holds_13 : decode (mC m_M_holds) 13 = .ok (.iconst 1, 1) := by decide +kernel
theorem d_M_holds_14 : decode (mC m_M_holds) 14 = .ok (.if_icmp .ne (20), 3) := by decide +kernel
theorem d_M_holds_17 : decode (mC m_M_holds) 17 = .ok (.aload_n 0, 1) := by decide +kernel
theorem d_M_holds_18 : decode (mC m_M_holds) 18 = .ok (.getfield 22, 3) := by decide +kernel
theorem d_M_holds_21 : decode (mC m_M_holds) 21 = .ok (.bipush (6), 2) := by decide +kernel
theorem d_M_holds_23 : decode (mC m_M_holds) 23 = .ok (.iload_n 3, 1) := by decide +kernel
theorem d_M_holds_24 : decode (mC m_M_holds) 24 = .ok (.imul, 1) := by decide +kernel
theorem d_M_holds_25 : decode (mC m_M_holds) 25 = .ok (.aload_n 0, 1) := by decide +kernel
theorem d_M_holds_26 : decode (mC m_M_holds) 26 = .ok (.getfield 65, 3) := by decide +kernel
theorem d_M_holds_29 : decode (mC m_M_holds) 29 = .ok (.iload_n 1, 1) := by decide +kernel
theorem d_M_holds_30 : decode (mC m_M_holds) 30 = .ok (.iaload, 1) := by decide +kernel
theorem d_M_holds_31 : decode (mC m_M_holds) 31 = .ok (.iadd, 1) := by decide +kernel
theorem d_M_holds_32 : decode (mC m_M_holds) 32 = .ok (.baload, 1) := by decide +kernel
theorem d_M_holds_33 : decode (mC m_M_holds) 33 = .ok (.ireturn, 1) := by decide +kernel
theorem d_M_holds_34 : decode (mC m_M_holds) 34 = .ok (.aload_n 0, 1) := by decide +kernel
theorem d_M_holds_35 : decode (mC m_M_holds) 35 = .ok (.getfield 38, 3) := by decide +kernel
theorem d_M_holds_38 : decode (mC m_M_holds) 38 = .ok (.iload_n 2, 1) := by decide +kernel
theorem d_M_holds_39 : decode (mC m_M_holds) 39 = .ok (.iaload, 1) := by decide +kernel
theorem d_M_holds_40 : decode (mC m_M_holds) 40 = .ok (.iconst 2, 1) := by decide +kernel
theorem d_M_holds_41 : decode (mC m_M_holds) 41 = .ok (.if_icmp .ne (24), 3) := by decide +kernel
theorem d_M_holds_44 : decode (mC m_M_holds) 44 = .ok (.aload_n 0, 1) := by decide +kernel
theorem d_M_holds_45 : decode (mC m_M_holds) 45 = .ok (.iload_n 1, 1) := by decide +kernel
theorem d_M_holds_46 : decode (mC m_M_holds) 46 = .ok (.iconst 0, 1) := by decide +kernel
theorem d_M_holds_47 : decode (mC m_M_holds) 47 = .ok (.invokevirtual 322, 3) := by decide +kernel
theorem d_M_holds_50 : decode (mC m_M_holds) 50 = .ok (.aload_n 0, 1) := by decide +kernel
theorem d_M_holds_51 : decode (mC m_M_holds) 51 = .ok (.getfield 41, 3) := by decide +kernel
theorem d_M_holds_54 : decode (mC m_M_holds) 54 = .ok (.iload_n 2, 1) := by decide +kernel
theorem d_M_holds_55 : decode (mC m_M_holds) 55 = .ok (.iaload, 1) := by decide +kernel
theorem d_M_holds_56 : decode (mC m_M_holds) 56 = .ok (.if_icmp .lt (7), 3) := by decide +kernel
theorem d_M_holds_59 : decode (mC m_M_holds) 59 = .ok (.iconst 1, 1) := by decide +kernel
theorem d_M_holds_60 : decode (mC m_M_holds) 60 = .ok (.goto (4), 3) := by decide +kernel
theorem d_M_holds_63 : decode (mC m_M_holds) 63 = .ok (.iconst 0, 1) := by decide +kernel
theorem d_M_holds_64 : decode (mC m_M_holds) 64 = .ok (.ireturn, 1) := by decide +kernel
theorem d_M_holds_65 : decode (mC m_M_holds) 65 = .ok (.aload_n 0, 1) := by decide +kernel
theorem d_M_holds_66 : decode (mC m_M_holds) 66 = .ok (.getfield 38, 3) := by decide +kernel
theorem d_M_holds_69 : decode (mC m_M_holds) 69 = .ok (.iload_n 2, 1) := by decide +kernel
theorem d_M_holds_70 : decode (mC m_M_holds) 70 = .ok (.iaload, 1) := by decide +kernel
theorem d_M_holds_71 : decode (mC m_M_holds) 71 = .ok (.iconst 3, 1) := by decide +kernel
theorem d_M_holds_72 : decode (mC m_M_holds) 72 = .ok (.if_icmp .ne (30), 3) := by decide +kernel
theorem d_M_holds_75 : decode (mC m_M_holds) 75 = .ok (.aload_n 0, 1) := by decide +kernel
theorem d_M_holds_76 : decode (mC m_M_holds) 76 = .ok (.getfield 7, 3) := by decide +kernel
theorem d_M_holds_79 : decode (mC m_M_holds) 79 = .ok (.iconst 3, 1) := by decide +kernel
theorem d_M_holds_80 : decode (mC m_M_holds) 80 = .ok (.iload_n 3, 1) := by decide +kernel
theorem d_M_holds_81 : decode (mC m_M_holds) 81 = .ok (.imul, 1) := by decide +kernel
theorem d_M_holds_82 : decode (mC m_M_holds) 82 = .ok (.aload_n 0, 1) := by decide +kernel
theorem d_M_holds_83 : decode (mC m_M_holds) 83 = .ok (.getfield 41, 3) := by decide +kernel
theorem d_M_holds_86 : decode (mC m_M_holds) 86 = .ok (.iload_n 2, 1) := by decide +kernel
theorem d_M_holds_87 : decode (mC m_M_holds) 87 = .ok (.iaload, 1) := by decide +kernel
theorem d_M_holds_88 : decode (mC m_M_holds) 88 = .ok (.iadd, 1) := by decide +kernel
theorem d_M_holds_89 : decode (mC m_M_holds) 89 = .ok (.iaload, 1) := by decide +kernel
theorem d_M_holds_90 : decode (mC m_M_holds) 90 = .ok (.iconst 1, 1) := by decide +kernel
theorem d_M_holds_91 : decode (mC m_M_holds) 91 = .ok (.if_icmp .ne (7), 3) := by decide +kernel
theorem d_M_holds_94 : decode (mC m_M_holds) 94 = .ok (.iconst 1, 1) := by decide +kernel
theorem d_M_holds_95 : decode (mC m_M_holds) 95 = .ok (.goto (29), 3) := by decide +kernel
theorem d_M_holds_98 : decode (mC m_M_holds) 98 = .ok (.iconst 0, 1) := by decide +kernel
theorem d_M_holds_99 : decode (mC m_M_holds) 99 = .ok (.goto (25), 3) := by decide +kernel
theorem d_M_holds_102 : decode (mC m_M_holds) 102 = .ok (.aload_n 0, 1) := by decide +kernel
theorem d_M_holds_103 : decode (mC m_M_holds) 103 = .ok (.iload_n 1, 1) := by decide +kernel
theorem d_M_holds_104 : decode (mC m_M_holds) 104 = .ok (.invokevirtual 325, 3) := by decide +kernel
theorem d_M_holds_107 : decode (mC m_M_holds) 107 = .ok (.invokestatic 309, 3) := by decide +kernel
theorem d_M_holds_110 : decode (mC m_M_holds) 110 = .ok (.aload_n 0, 1) := by decide +kernel
theorem d_M_holds_111 : decode (mC m_M_holds) 111 = .ok (.getfield 41, 3) := by decide +kernel
theorem d_M_holds_114 : decode (mC m_M_holds) 114 = .ok (.iload_n 2, 1) := by decide +kernel
theorem d_M_holds_115 : decode (mC m_M_holds) 115 = .ok (.iaload, 1) := by decide +kernel
theorem d_M_holds_116 : decode (mC m_M_holds) 116 = .ok (.if_icmp .lt (7), 3) := by decide +kernel
theorem d_M_holds_119 : decode (mC m_M_holds) 119 = .ok (.iconst 1, 1) := by decide +kernel
theorem d_M_holds_120 : decode (mC m_M_holds) 120 = .ok (.goto (4), 3) := by decide +kernel
theorem d_M_holds_123 : decode (mC m_M_holds) 123 = .ok (.iconst 0, 1) := by decide +kernel
theorem d_M_holds_124 : decode (mC m_M_holds) 124 = .ok (.ireturn, 1) := by decide +kernel
theorem d_M_newSession_0 : decode (mC m_M_newSession) 0 = .ok (.aload_n 0, 1) := by decide +kernel
theorem d_M_newSession_1 : decode (mC m_M_newSession) 1 = .ok (.getfield 235, 3) := by decide +kernel
theorem d_M_newSession_4 : decode (mC m_M_newSession) 4 = .ok (.istore_n 3, 1) := by decide +kernel
theorem d_M_newSession_5 : decode (mC m_M_newSession) 5 = .ok (.aload_n 0, 1) := by decide +kernel
theorem d_M_newSession_6 : decode (mC m_M_newSession) 6 = .ok (.getfield 92, 3) := by decide +kernel
theorem d_M_newSession_9 : decode (mC m_M_newSession) 9 = .ok (.iload_n 3, 1) := by decide +kernel
theorem d_M_newSession_10 : decode (mC m_M_newSession) 10 = .ok (.iload_n 1, 1) := by decide +kernel
theorem d_M_newSession_11 : decode (mC m_M_newSession) 11 = .ok (.iastore, 1) := by decide +kernel
theorem d_M_newSession_12 : decode (mC m_M_newSession) 12 = .ok (.aload_n 0, 1) := by decide +kernel
theorem d_M_newSession_13 : decode (mC m_M_newSession) 13 = .ok (.getfield 95, 3) := by decide +kernel
theorem d_M_newSession_16 : decode (mC m_M_newSession) 16 = .ok (.iload_n 3, 1) := by decide +kernel
theorem d_M_newSession_17 : decode (mC m_M_newSession) 17 = .ok (.aload_n 0, 1) := by decide +kernel
theorem d_M_newSession_18 : decode (mC m_M_newSession) 18 = .ok (.getfield 247, 3) := by decide +kernel
theorem d_M_newSession_21 : decode (mC m_M_newSession) 21 = .ok (.iastore, 1) := by decide +kernel
theorem d_M_newSession_22 : decode (mC m_M_newSession) 22 = .ok (.aload_n 0, 1) := by decide +kernel
theorem d_M_newSession_23 : decode (mC m_M_newSession) 23 = .ok (.getfield 98, 3) := by decide +kernel
theorem d_M_newSession_26 : decode (mC m_M_newSession) 26 = .ok (.iload_n 3, 1) := by decide +kernel
theorem d_M_newSession_27 : decode (mC m_M_newSession) 27 = .ok (.aload_n 0, 1) := by decide +kernel
theorem d_M_newSession_28 : decode (mC m_M_newSession) 28 = .ok (.getfield 247, 3) := by decide +kernel
theorem d_M_newSession_31 : decode (mC m_M_newSession) 31 = .ok (.iastore, 1) := by decide +kernel
theorem d_M_newSession_32 : decode (mC m_M_newSession) 32 = .ok (.aload_n 0, 1) := by decide +kernel
theorem d_M_newSession_33 : decode (mC m_M_newSession) 33 = .ok (.getfield 101, 3) := by decide +kernel
theorem d_M_newSession_36 : decode (mC m_M_newSession) 36 = .ok (.iload_n 3, 1) := by decide +kernel
theorem d_M_newSession_37 : decode (mC m_M_newSession) 37 = .ok (.iload_n 2, 1) := by decide +kernel
theorem d_M_newSession_38 : decode (mC m_M_newSession) 38 = .ok (.iastore, 1) := by decide +kernel
theorem d_M_newSession_39 : decode (mC m_M_newSession) 39 = .ok (.aload_n 0, 1) := by decide +kernel
theorem d_M_newSession_40 : decode (mC m_M_newSession) 40 = .ok (.getfield 104, 3) := by decide +kernel
theorem d_M_newSession_43 : decode (mC m_M_newSession) 43 = .ok (.iload_n 3, 1) := by decide +kernel
theorem d_M_newSession_44 : decode (mC m_M_newSession) 44 = .ok (.iconst 1, 1) := by decide +kernel
theorem d_M_newSession_45 : decode (mC m_M_newSession) 45 = .ok (.bastore, 1) := by decide +kernel
theorem d_M_newSession_46 : decode (mC m_M_newSession) 46 = .ok (.iconst 0, 1) := by decide +kernel
theorem d_M_newSession_47 : decode (mC m_M_newSession) 47 = .ok (.istore 4, 2) := by decide +kernel
theorem d_M_newSession_49 : decode (mC m_M_newSession) 49 = .ok (.iload 4, 2) := by decide +kernel
theorem d_M_newSession_51 : decode (mC m_M_newSession) 51 = .ok (.iconst 3, 1) := by decide +kernel
theorem d_M_newSession_52 : decode (mC m_M_newSession) 52 = .ok (.if_icmp .ge (21), 3) := by decide +kernel
theorem d_M_newSession_55 : decode (mC m_M_newSession) 55 = .ok (.aload_n 0, 1) := by decide +kernel
theorem d_M_newSession_56 : decode (mC m_M_newSession) 56 = .ok (.getfield 107, 3) := by decide +kernel
theorem d_M_newSession_59 : decode (mC m_M_newSession) 59 = .ok (.iconst 3, 1) := by decide +kernel
theorem d_M_newSession_60 : decode (mC m_M_newSession) 60 = .ok (.iload_n 3, 1) := by decide +kernel
theorem d_M_newSession_61 : decode (mC m_M_newSession) 61 = .ok (.imul, 1) := by decide +kernel
theorem d_M_newSession_62 : decode (mC m_M_newSession) 62 = .ok (.iload 4, 2) := by decide +kernel
theorem d_M_newSession_64 : decode (mC m_M_newSession) 64 = .ok (.iadd, 1) := by decide +kernel
theorem d_M_newSession_65 : decode (mC m_M_newSession) 65 = .ok (.iconst (-1), 1) := by decide +kernel
theorem d_M_newSession_66 : decode (mC m_M_newSession) 66 = .ok (.iastore, 1) := by decide +kernel
theorem d_M_newSession_67 : decode (mC m_M_newSession) 67 = .ok (.iinc 4 (1), 3) := by decide +kernel
theorem d_M_newSession_70 : decode (mC m_M_newSession) 70 = .ok (.goto (-21), 3) := by decide +kernel
theorem d_M_newSession_73 : decode (mC m_M_newSession) 73 = .ok (.aload_n 0, 1) := by decide +kernel
theorem d_M_newSession_74 : decode (mC m_M_newSession) 74 = .ok (.dup, 1) := by decide +kernel
theorem d_M_newSession_75 : decode (mC m_M_newSession) 75 = .ok (.getfield 235, 3) := by decide +kernel
theorem d_M_newSession_78 : decode (mC m_M_newSession) 78 = .ok (.iconst 1, 1) := by decide +kernel
theorem d_M_newSession_79 : decode (mC m_M_newSession) 79 = .ok (.iadd, 1) := by decide +kernel
theorem d_M_newSession_80 : decode (mC m_M_newSession) 80 = .ok (.putfield 235, 3) := by decide +kernel
theorem d_M_newSession_83 : decode (mC m_M_newSession) 83 = .ok (.aload_n 0, 1) := by decide +kernel
theorem d_M_newSession_84 : decode (mC m_M_newSession) 84 = .ok (.iconst 0, 1) := by decide +kernel
theorem d_M_newSession_85 : decode (mC m_M_newSession) 85 = .ok (.iload_n 3, 1) := by decide +kernel
theorem d_M_newSession_86 : decode (mC m_M_newSession) 86 = .ok (.invokevirtual 255, 3) := by decide +kernel
theorem d_M_newSession_89 : decode (mC m_M_newSession) 89 = .ok (.iload_n 3, 1) := by decide +kernel
theorem d_M_newSession_90 : decode (mC m_M_newSession) 90 = .ok (.ireturn, 1) := by decide +kernel
theorem d_M_grant_0 : decode (mC m_M_grant) 0 = .ok (.aload_n 0, 1) := by decide +kernel
theorem d_M_grant_1 : decode (mC m_M_grant) 1 = .ok (.getfield 235, 3) := by decide +kernel
theorem d_M_grant_4 : decode (mC m_M_grant) 4 = .ok (.bipush (60), 2) := by decide +kernel
theorem d_M_grant_6 : decode (mC m_M_grant) 6 = .ok (.if_icmp .ne (11), 3) := by decide +kernel
theorem d_M_grant_9 : decode (mC m_M_grant) 9 = .ok (.aload_n 0, 1) := by decide +kernel
theorem d_M_grant_10 : decode (mC m_M_grant) 10 = .ok (.getfield 77, 3) := by decide +kernel
theorem d_M_grant_13 : decode (mC m_M_grant) 13 = .ok (.iload_n 1, 1) := by decide +kernel
theorem d_M_grant_14 : decode (mC m_M_grant) 14 = .ok (.iconst 2, 1) := by decide +kernel
theorem d_M_grant_15 : decode (mC m_M_grant) 15 = .ok (.iastore, 1) := by decide +kernel
theorem d_M_grant_16 : decode (mC m_M_grant) 16 = .ok (.return_, 1) := by decide +kernel
theorem d_M_grant_17 : decode (mC m_M_grant) 17 = .ok (.aload_n 0, 1) := by decide +kernel
theorem d_M_grant_18 : decode (mC m_M_grant) 18 = .ok (.getfield 62, 3) := by decide +kernel
theorem d_M_grant_21 : decode (mC m_M_grant) 21 = .ok (.iload_n 1, 1) := by decide +kernel
theorem d_M_grant_22 : decode (mC m_M_grant) 22 = .ok (.iaload, 1) := by decide +kernel
theorem d_M_grant_23 : decode (mC m_M_grant) 23 = .ok (.istore_n 2, 1) := by decide +kernel
theorem d_M_grant_24 : decode (mC m_M_grant) 24 = .ok (.aload_n 0, 1) := by decide +kernel
theorem d_M_grant_25 : decode (mC m_M_grant) 25 = .ok (.getfield 77, 3) := by decide +kernel
theorem d_M_grant_28 : decode (mC m_M_grant) 28 = .ok (.iload_n 1, 1) := by decide +kernel
theorem d_M_grant_29 : decode (mC m_M_grant) 29 = .ok (.iconst 1, 1) := by decide +kernel
theorem d_M_grant_30 : decode (mC m_M_grant) 30 = .ok (.iastore, 1) := by decide +kernel
theorem d_M_grant_31 : decode (mC m_M_grant) 31 = .ok (.aload_n 0, 1) := by decide +kernel
theorem d_M_grant_32 : decode (mC m_M_grant) 32 = .ok (.getfield 86, 3) := by decide +kernel
theorem d_M_grant_35 : decode (mC m_M_grant) 35 = .ok (.iload_n 1, 1) := by decide +kernel
theorem d_M_grant_36 : decode (mC m_M_grant) 36 = .ok (.aload_n 0, 1) := by decide +kernel
theorem d_M_grant_37 : decode (mC m_M_grant) 37 = .ok (.iload_n 2, 1) := by decide +kernel
theorem d_M_grant_38 : decode (mC m_M_grant) 38 = .ok (.iconst (-1), 1) := by decide +kernel
theorem d_M_grant_39 : decode (mC m_M_grant) 39 = .ok (.invokevirtual 328, 3) := by decide +kernel
theorem d_M_grant_42 : decode (mC m_M_grant) 42 = .ok (.iastore, 1) := by decide +kernel
theorem d_M_grant_43 : decode (mC m_M_grant) 43 = .ok (.iconst 0, 1) := by decide +kernel
theorem d_M_grant_44 : decode (mC m_M_grant) 44 = .ok (.istore_n 3, 1) := by decide +kernel
theorem d_M_grant_45 : decode (mC m_M_grant) 45 = .ok (.iload_n 3, 1) := by decide +kernel
theorem d_M_grant_46 : decode (mC m_M_grant) 46 = .ok (.iconst 3, 1) := by decide +kernel
theorem d_M_grant_47 : decode (mC m_M_grant) 47 = .ok (.if_icmp .ge (34), 3) := by decide +kernel
theorem d_M_grant_50 : decode (mC m_M_grant) 50 = .ok (.aload_n 0, 1) := by decide +kernel
theorem d_M_grant_51 : decode (mC m_M_grant) 51 = .ok (.getfield 107, 3) := by decide +kernel
theorem d_M_grant_54 : decode (mC m_M_grant) 54 = .ok (.iconst 3, 1) := by decide +kernel
theorem d_M_grant_55 : decode (mC m_M_grant) 55 = .ok (.aload_n 0, 1) := by decide +kernel
theorem d_M_grant_56 : decode (mC m_M_grant) 56 = .ok (.getfield 86, 3) := by decide +kernel
theorem d_M_grant_59 : decode (mC m_M_grant) 59 = .ok (.iload_n 1, 1) := by decide +kernel
theorem d_M_grant_60 : decode (mC m_M_grant) 60 = .ok (.iaload, 1) := by decide +kernel
theorem d_M_grant_61 : decode (mC m_M_grant) 61 = .ok (.imul, 1) := by decide +kernel
theorem d_M_grant_62 : decode (mC m_M_grant) 62 = .ok (.iload_n 3, 1) := by decide +kernel
theorem d_M_grant_63 : decode (mC m_M_grant) 63 = .ok (.iadd, 1) := by decide +kernel
theorem d_M_grant_64 : decode (mC m_M_grant) 64 = .ok (.aload_n 0, 1) := by decide +kernel
theorem d_M_grant_65 : decode (mC m_M_grant) 65 = .ok (.getfield 89, 3) := by decide +kernel
theorem d_M_grant_68 : decode (mC m_M_grant) 68 = .ok (.iconst 3, 1) := by decide +kernel
theorem d_M_grant_69 : decode (mC m_M_grant) 69 = .ok (.iload_n 1, 1) := by decide +kernel
theorem d_M_grant_70 : decode (mC m_M_grant) 70 = .ok (.imul, 1) := by decide +kernel
theorem d_M_grant_71 : decode (mC m_M_grant) 71 = .ok (.iload_n 3, 1) := by decide +kernel
theorem d_M_grant_72 : decode (mC m_M_grant) 72 = .ok (.iadd, 1) := by decide +kernel
theorem d_M_grant_73 : decode (mC m_M_grant) 73 = .ok (.iaload, 1) := by decide +kernel
theorem d_M_grant_74 : decode (mC m_M_grant) 74 = .ok (.iastore, 1) := by decide +kernel
theorem d_M_grant_75 : decode (mC m_M_grant) 75 = .ok (.iinc 3 (1), 3) := by decide +kernel
theorem d_M_grant_78 : decode (mC m_M_grant) 78 = .ok (.goto (-33), 3) := by decide +kernel
theorem d_M_grant_81 : decode (mC m_M_grant) 81 = .ok (.aload_n 0, 1) := by decide +kernel
theorem d_M_grant_82 : decode (mC m_M_grant) 82 = .ok (.getfield 22, 3) := by decide +kernel
theorem d_M_grant_85 : decode (mC m_M_grant) 85 = .ok (.bipush (6), 2) := by decide +kernel
theorem d_M_grant_87 : decode (mC m_M_grant) 87 = .ok (.iload_n 2, 1) := by decide +kernel
theorem d_M_grant_88 : decode (mC m_M_grant) 88 = .ok (.imul, 1) := by decide +kernel
theorem d_M_grant_89 : decode (mC m_M_grant) 89 = .ok (.aload_n 0, 1) := by decide +kernel
theorem d_M_grant_90 : decode (mC m_M_grant) 90 = .ok (.getfield 65, 3) := by decide +kernel
theorem d_M_grant_93 : decode (mC m_M_grant) 93 = .ok (.iload_n 1, 1) := by decide +kernel
theorem d_M_grant_94 : decode (mC m_M_grant) 94 = .ok (.iaload, 1) := by decide +kernel
theorem d_M_grant_95 : decode (mC m_M_grant) 95 = .ok (.iadd, 1) := by decide +kernel
theorem d_M_grant_96 : decode (mC m_M_grant) 96 = .ok (.iconst 1, 1) := by decide +kernel
theorem d_M_grant_97 : decode (mC m_M_grant) 97 = .ok (.bastore, 1) := by decide +kernel
theorem d_M_grant_98 : decode (mC m_M_grant) 98 = .ok (.aload_n 0, 1) := by decide +kernel
theorem d_M_grant_99 : decode (mC m_M_grant) 99 = .ok (.getfield 26, 3) := by decide +kernel
theorem d_M_grant_102 : decode (mC m_M_grant) 102 = .ok (.bipush (6), 2) := by decide +kernel
theorem d_M_grant_104 : decode (mC m_M_grant) 104 = .ok (.iload_n 2, 1) := by decide +kernel
theorem d_M_grant_105 : decode (mC m_M_grant) 105 = .ok (.imul, 1) := by decide +kernel
theorem d_M_grant_106 : decode (mC m_M_grant) 106 = .ok (.aload_n 0, 1) := by decide +kernel
theorem d_M_grant_107 : decode (mC m_M_grant) 107 = .ok (.getfield 68, 3) := by decide +kernel
theorem d_M_grant_110 : decode (mC m_M_grant) 110 = .ok (.iload_n 1, 1) := by decide +kernel
theorem d_M_grant_111 : decode (mC m_M_grant) 111 = .ok (.iaload, 1) := by decide +kernel
theorem d_M_grant_112 : decode (mC m_M_grant) 112 = .ok (.iadd, 1) := by decide +kernel
theorem d_M_grant_113 : decode (mC m_M_grant) 113 = .ok (.iconst 1, 1) := by decide +kernel
theorem d_M_grant_114 : decode (mC m_M_grant) 114 = .ok (.bastore, 1) := by decide +kernel
theorem d_M_grant_115 : decode (mC m_M_grant) 115 = .ok (.return_, 1) := by decide +kernel
theorem d_M_go_0 : decode (mC m_M_go) 0 = .ok (.iload_n 2, 1) := by decide +kernel
theorem d_M_go_1 : decode (mC m_M_go) 1 = .ok (.istore_n 3, 1) := by decide +kernel
theorem d_M_go_2 : decode (mC m_M_go) 2 = .ok (.bipush (12), 2) := by decide +kernel
theorem d_M_go_4 : decode (mC m_M_go) 4 = .ok (.aload_n 0, 1) := by decide +kernel
theorem d_M_go_5 : decode (mC m_M_go) 5 = .ok (.getfield 71, 3) := by decide +kernel
theorem d_M_go_8 : decode (mC m_M_go) 8 = .ok (.iload_n 1, 1) := by decide +kernel
theorem d_M_go_9 : decode (mC m_M_go) 9 = .ok (.iaload, 1) := by decide +kernel
theorem d_M_go_10 : decode (mC m_M_go) 10 = .ok (.imul, 1) := by decide +kernel
theorem d_M_go_11 : decode (mC m_M_go) 11 = .ok (.iload_n 3, 1) := by decide +kernel
theorem d_M_go_12 : decode (mC m_M_go) 12 = .ok (.iadd, 1) := by decide +kernel
theorem d_M_go_13 : decode (mC m_M_go) 13 = .ok (.istore 4, 2) := by decide +kernel
theorem d_M_go_15 : decode (mC m_M_go) 15 = .ok (.iload_n 3, 1) := by decide +kernel
theorem d_M_go_16 : decode (mC m_M_go) 16 = .ok (.iconst (-1), 1) := by decide +kernel
theorem d_M_go_17 : decode (mC m_M_go) 17 = .ok (.if_icmp .eq (60), 3) := by decide +kernel
theorem d_M_go_20 : decode (mC m_M_go) 20 = .ok (.aload_n 0, 1) := by decide +kernel
theorem d_M_go_21 : decode (mC m_M_go) 21 = .ok (.getfield 38, 3) := by decide +kernel
theorem d_M_go_24 : decode (mC m_M_go) 24 = .ok (.iload 4, 2) := by decide +kernel
theorem d_M_go_26 : decode (mC m_M_go) 26 = .ok (.iaload, 1) := by decide +kernel
theorem d_M_go_27 : decode (mC m_M_go) 27 = .ok (.invokestatic 300, 3) := by decide +kernel
theorem d_M_go_30 : decode (mC m_M_go) 30 = .ok (.ifCond .eq (47), 3) := by decide +kernel
theorem d_M_go_33 : decode (mC m_M_go) 33 = .ok (.aload_n 0, 1) := by decide +kernel
theorem d_M_go_34 : decode (mC m_M_go) 34 = .ok (.iload_n 1, 1) := by decide +kernel
theorem d_M_go_35 : decode (mC m_M_go) 35 = .ok (.iload 4, 2) := by decide +kernel
theorem d_M_go_37 : decode (mC m_M_go) 37 = .ok (.invokevirtual 332, 3) := by decide +kernel
theorem d_M_go_40 : decode (mC m_M_go) 40 = .ok (.ifCond .eq (13), 3) := by decide +kernel
theorem d_M_go_43 : decode (mC m_M_go) 43 = .ok (.aload_n 0, 1) := by decide +kernel
theorem d_M_go_44 : decode (mC m_M_go) 44 = .ok (.getfield 47, 3) := by decide +kernel
theorem d_M_go_47 : decode (mC m_M_go) 47 = .ok (.iload 4, 2) := by decide +kernel
theorem d_M_go_49 : decode (mC m_M_go) 49 = .ok (.iaload, 1) := by decide +kernel
theorem d_M_go_50 : decode (mC m_M_go) 50 = .ok (.goto (10), 3) := by decide +kernel
theorem d_M_go_53 : decode (mC m_M_go) 53 = .ok (.aload_n 0, 1) := by decide +kernel
theorem d_M_go_54 : decode (mC m_M_go) 54 = .ok (.getfield 50, 3) := by decide +kernel
theorem d_M_go_57 : decode (mC m_M_go) 57 = .ok (.iload 4, 2) := by decide +kernel
theorem d_M_go_59 : decode (mC m_M_go) 59 = .ok (.iaload, 1) := by decide +kernel
theorem d_M_go_60 : decode (mC m_M_go) 60 = .ok (.istore_n 3, 1) := by decide +kernel
theorem d_M_go_61 : decode (mC m_M_go) 61 = .ok (.bipush (12), 2) := by decide +kernel
theorem d_M_go_63 : decode (mC m_M_go) 63 = .ok (.aload_n 0, 1) := by decide +kernel
theorem d_M_go_64 : decode (mC m_M_go) 64 = .ok (.getfield 71, 3) := by decide +kernel
theorem d_M_go_67 : decode (mC m_M_go) 67 = .ok (.iload_n 1, 1) := by decide +kernel
theorem d_M_go_68 : decode (mC m_M_go) 68 = .ok (.iaload, 1) := by decide +kernel
theorem d_M_go_69 : decode (mC m_M_go) 69 = .ok (.imul, 1) := by decide +kernel
theorem d_M_go_70 : decode (mC m_M_go) 70 = .ok (.iload_n 3, 1) := by decide +kernel
theorem d_M_go_71 : decode (mC m_M_go) 71 = .ok (.iadd, 1) := by decide +kernel
theorem d_M_go_72 : decode (mC m_M_go) 72 = .ok (.istore 4, 2) := by decide +kernel
theorem d_M_go_74 : decode (mC m_M_go) 74 = .ok (.goto (-59), 3) := by decide +kernel
theorem d_M_go_77 : decode (mC m_M_go) 77 = .ok (.aload_n 0, 1) := by decide +kernel
theorem d_M_go_78 : decode (mC m_M_go) 78 = .ok (.getfield 74, 3) := by decide +kernel
theorem d_M_go_81 : decode (mC m_M_go) 81 = .ok (.iload_n 1, 1) := by decide +kernel
theorem d_M_go_82 : decode (mC m_M_go) 82 = .ok (.iload_n 3, 1) := by decide +kernel
theorem d_M_go_83 : decode (mC m_M_go) 83 = .ok (.iastore, 1) := by decide +kernel
theorem d_M_go_84 : decode (mC m_M_go) 84 = .ok (.aload_n 0, 1) := by decide +kernel
theorem d_M_go_85 : decode (mC m_M_go) 85 = .ok (.getfield 80, 3) := by decide +kernel
theorem d_M_go_88 : decode (mC m_M_go) 88 = .ok (.iload_n 1, 1) := by decide +kernel
theorem d_M_go_89 : decode (mC m_M_go) 89 = .ok (.iconst 0, 1) := by decide +kernel
theorem d_M_go_90 : decode (mC m_M_go) 90 = .ok (.iastore, 1) := by decide +kernel
theorem d_M_go_91 : decode (mC m_M_go) 91 = .ok (.iload_n 3, 1) := by decide +kernel
theorem d_M_go_92 : decode (mC m_M_go) 92 = .ok (.iconst (-1), 1) := by decide +kernel
theorem d_M_go_93 : decode (mC m_M_go) 93 = .ok (.if_icmp .eq (15), 3) := by decide +kernel
theorem d_M_go_96 : decode (mC m_M_go) 96 = .ok (.aload_n 0, 1) := by decide +kernel
theorem d_M_go_97 : decode (mC m_M_go) 97 = .ok (.getfield 38, 3) := by decide +kernel
theorem d_M_go_100 : decode (mC m_M_go) 100 = .ok (.iload 4, 2) := by decide +kernel
theorem d_M_go_102 : decode (mC m_M_go) 102 = .ok (.iaload, 1) := by decide +kernel
theorem d_M_go_103 : decode (mC m_M_go) 103 = .ok (.bipush (6), 2) := by decide +kernel
theorem d_M_go_105 : decode (mC m_M_go) 105 = .ok (.if_icmp .ne (13), 3) := by decide +kernel
theorem d_M_go_108 : decode (mC m_M_go) 108 = .ok (.aload_n 0, 1) := by decide +kernel
theorem d_M_go_109 : decode (mC m_M_go) 109 = .ok (.getfield 77, 3) := by decide +kernel
theorem d_M_go_112 : decode (mC m_M_go) 112 = .ok (.iload_n 1, 1) := by decide +kernel
theorem d_M_go_113 : decode (mC m_M_go) 113 = .ok (.iconst 2, 1) := by decide +kernel
theorem d_M_go_114 : decode (mC m_M_go) 114 = .ok (.iastore, 1) := by decide +kernel
theorem d_M_go_115 : decode (mC m_M_go) 115 = .ok (.goto (19), 3) := by decide +kernel
theorem d_M_go_118 : decode (mC m_M_go) 118 = .ok (.aload_n 0, 1) := by decide +kernel
theorem d_M_go_119 : decode (mC m_M_go) 119 = .ok (.getfield 38, 3) := by decide +kernel
theorem d_M_go_122 : decode (mC m_M_go) 122 = .ok (.iload 4, 2) := by decide +kernel
theorem d_M_go_124 : decode (mC m_M_go) 124 = .ok (.iaload, 1) := by decide +kernel
theorem d_M_go_125 : decode (mC m_M_go) 125 = .ok (.iconst 5, 1) := by decide +kernel
theorem d_M_go_126 : decode (mC m_M_go) 126 = .ok (.if_icmp .ne (8), 3) := by decide +kernel
theorem d_M_go_129 : decode (mC m_M_go) 129 = .ok (.aload_n 0, 1) := by decide +kernel
theorem d_M_go_130 : decode (mC m_M_go) 130 = .ok (.iload_n 1, 1) := by decide +kernel
theorem d_M_go_131 : decode (mC m_M_go) 131 = .ok (.invokevirtual 335, 3) := by decide +kernel
theorem d_M_go_134 : decode (mC m_M_go) 134 = .ok (.return_, 1) := by decide +kernel
theorem d_M_begin_0 : decode (mC m_M_begin) 0 = .ok (.iload_n 1, 1) := by decide +kernel
theorem d_M_begin_1 : decode (mC m_M_begin) 1 = .ok (.invokestatic 284, 3) := by decide +kernel
theorem d_M_begin_4 : decode (mC m_M_begin) 4 = .ok (.ifCond .eq (21), 3) := by decide +kernel
theorem d_M_begin_7 : decode (mC m_M_begin) 7 = .ok (.iload_n 2, 1) := by decide +kernel
theorem d_M_begin_8 : decode (mC m_M_begin) 8 = .ok (.invokestatic 284, 3) := by decide +kernel
theorem d_M_begin_11 : decode (mC m_M_begin) 11 = .ok (.ifCond .eq (14), 3) := by decide +kernel
theorem d_M_begin_14 : decode (mC m_M_begin) 14 = .ok (.iload_n 3, 1) := by decide +kernel
theorem d_M_begin_15 : decode (mC m_M_begin) 15 = .ok (.invokestatic 284, 3) := by decide +kernel
theorem d_M_begin_18 : decode (mC m_M_begin) 18 = .ok (.ifCond .eq (7), 3) := by decide +kernel
theorem d_M_begin_21 : decode (mC m_M_begin) 21 = .ok (.iconst 1, 1) := by decide +kernel
theorem d_M_begin_22 : decode (mC m_M_begin) 22 = .ok (.goto (4), 3) := by decide +kernel
theorem d_M_begin_25 : decode (mC m_M_begin) 25 = .ok (.iconst 0, 1) := by decide +kernel
theorem d_M_begin_26 : decode (mC m_M_begin) 26 = .ok (.istore 4, 2) := by decide +kernel
theorem d_M_begin_28 : decode (mC m_M_begin) 28 = .ok (.aload_n 0, 1) := by decide +kernel
theorem d_M_begin_29 : decode (mC m_M_begin) 29 = .ok (.iload 4, 2) := by decide +kernel
theorem d_M_begin_31 : decode (mC m_M_begin) 31 = .ok (.iload 4, 2) := by decide +kernel
theorem d_M_begin_33 : decode (mC m_M_begin) 33 = .ok (.ifCond .eq (32), 3) := by decide +kernel
theorem d_M_begin_36 : decode (mC m_M_begin) 36 = .ok (.aload_n 0, 1) := by decide +kernel
theorem d_M_begin_37 : decode (mC m_M_begin) 37 = .ok (.getfield 303, 3) := by decide +kernel
theorem d_M_begin_40 : decode (mC m_M_begin) 40 = .ok (.ifCond .le (25), 3) := by decide +kernel
theorem d_M_begin_43 : decode (mC m_M_begin) 43 = .ok (.aload_n 0, 1) := by decide +kernel
theorem d_M_begin_44 : decode (mC m_M_begin) 44 = .ok (.getfield 29, 3) := by decide +kernel
theorem d_M_begin_47 : decode (mC m_M_begin) 47 = .ok (.iload_n 1, 1) := by decide +kernel
theorem d_M_begin_48 : decode (mC m_M_begin) 48 = .ok (.baload, 1) := by decide +kernel
theorem d_M_begin_49 : decode (mC m_M_begin) 49 = .ok (.ifCond .ne (16), 3) := by decide +kernel
theorem d_M_begin_52 : decode (mC m_M_begin) 52 = .ok (.aload_n 0, 1) := by decide +kernel
theorem d_M_begin_53 : decode (mC m_M_begin) 53 = .ok (.getfield 232, 3) := by decide +kernel
theorem d_M_begin_56 : decode (mC m_M_begin) 56 = .ok (.bipush (60), 2) := by decide +kernel
theorem d_M_begin_58 : decode (mC m_M_begin) 58 = .ok (.if_icmp .ge (7), 3) := by decide +kernel
theorem d_M_begin_61 : decode (mC m_M_begin) 61 = .ok (.iconst 1, 1) := by decide +kernel
theorem d_M_begin_62 : decode (mC m_M_begin) 62 = .ok (.goto (4), 3) := by decide +kernel
theorem d_M_begin_65 : decode (mC m_M_begin) 65 = .ok (.iconst 0, 1) := by decide +kernel
theorem d_M_begin_66 : decode (mC m_M_begin) 66 = .ok (.invokevirtual 274, 3) := by decide +kernel
theorem d_M_begin_69 : decode (mC m_M_begin) 69 = .ok (.ifCond .ne (5), 3) := by decide +kernel
theorem d_M_begin_72 : decode (mC m_M_begin) 72 = .ok (.iconst 0, 1) := by decide +kernel
theorem d_M_begin_73 : decode (mC m_M_begin) 73 = .ok (.ireturn, 1) := by decide +kernel
theorem d_M_begin_74 : decode (mC m_M_begin) 74 = .ok (.aload_n 0, 1) := by decide +kernel
theorem d_M_begin_75 : decode (mC m_M_begin) 75 = .ok (.getfield 232, 3) := by decide +kernel
theorem d_M_begin_78 : decode (mC m_M_begin) 78 = .ok (.istore 5, 2) := by decide +kernel
theorem d_M_begin_80 : decode (mC m_M_begin) 80 = .ok (.aload_n 0, 1) := by decide +kernel
theorem d_M_begin_81 : decode (mC m_M_begin) 81 = .ok (.getfield 62, 3) := by decide +kernel
theorem d_M_begin_84 : decode (mC m_M_begin) 84 = .ok (.iload 5, 2) := by decide +kernel
theorem d_M_begin_86 : decode (mC m_M_begin) 86 = .ok (.iload_n 1, 1) := by decide +kernel
theorem d_M_begin_87 : decode (mC m_M_begin) 87 = .ok (.iastore, 1) := by decide +kernel
theorem d_M_begin_88 : decode (mC m_M_begin) 88 = .ok (.aload_n 0, 1) := by decide +kernel
theorem d_M_begin_89 : decode (mC m_M_begin) 89 = .ok (.getfield 65, 3) := by decide +kernel
theorem d_M_begin_92 : decode (mC m_M_begin) 92 = .ok (.iload 5, 2) := by decide +kernel
theorem d_M_begin_94 : decode (mC m_M_begin) 94 = .ok (.iload_n 2, 1) := by decide +kernel
theorem d_M_begin_95 : decode (mC m_M_begin) 95 = .ok (.iastore, 1) := by decide +kernel
theorem d_M_begin_96 : decode (mC m_M_begin) 96 = .ok (.aload_n 0, 1) := by decide +kernel
theorem d_M_begin_97 : decode (mC m_M_begin) 97 = .ok (.getfield 68, 3) := by decide +kernel
theorem d_M_begin_100 : decode (mC m_M_begin) 100 = .ok (.iload 5, 2) := by decide +kernel
theorem d_M_begin_102 : decode (mC m_M_begin) 102 = .ok (.iload_n 3, 1) := by decide +kernel
theorem d_M_begin_103 : decode (mC m_M_begin) 103 = .ok (.iastore, 1) := by decide +kernel
theorem d_M_begin_104 : decode (mC m_M_begin) 104 = .ok (.aload_n 0, 1) := by decide +kernel
theorem d_M_begin_105 : decode (mC m_M_begin) 105 = .ok (.getfield 71, 3) := by decide +kernel
theorem d_M_begin_108 : decode (mC m_M_begin) 108 = .ok (.iload 5, 2) := by decide +kernel
theorem d_M_begin_110 : decode (mC m_M_begin) 110 = .ok (.aload_n 0, 1) := by decide +kernel
theorem d_M_begin_111 : decode (mC m_M_begin) 111 = .ok (.getfield 303, 3) := by decide +kernel
theorem d_M_begin_114 : decode (mC m_M_begin) 114 = .ok (.iconst 1, 1) := by decide +kernel
theorem d_M_begin_115 : decode (mC m_M_begin) 115 = .ok (.isub, 1) := by decide +kernel
theorem d_M_begin_116 : decode (mC m_M_begin) 116 = .ok (.iastore, 1) := by decide +kernel
theorem d_M_begin_117 : decode (mC m_M_begin) 117 = .ok (.aload_n 0, 1) := by decide +kernel
theorem d_M_begin_118 : decode (mC m_M_begin) 118 = .ok (.getfield 77, 3) := by decide +kernel
theorem d_M_begin_121 : decode (mC m_M_begin) 121 = .ok (.iload 5, 2) := by decide +kernel
theorem d_M_begin_123 : decode (mC m_M_begin) 123 = .ok (.iconst 0, 1) := by decide +kernel
theorem d_M_begin_124 : decode (mC m_M_begin) 124 = .ok (.iastore, 1) := by decide +kernel
theorem d_M_begin_125 : decode (mC m_M_begin) 125 = .ok (.aload_n 0, 1) := by decide +kernel
theorem d_M_begin_126 : decode (mC m_M_begin) 126 = .ok (.getfield 86, 3) := by decide +kernel
theorem d_M_begin_129 : decode (mC m_M_begin) 129 = .ok (.iload 5, 2) := by decide +kernel
theorem d_M_begin_131 : decode (mC m_M_begin) 131 = .ok (.iconst (-1), 1) := by decide +kernel
theorem d_M_begin_132 : decode (mC m_M_begin) 132 = .ok (.iastore, 1) := by decide +kernel
theorem d_M_begin_133 : decode (mC m_M_begin) 133 = .ok (.iconst 0, 1) := by decide +kernel
theorem d_M_begin_134 : decode (mC m_M_begin) 134 = .ok (.istore 6, 2) := by decide +kernel
theorem d_M_begin_136 : decode (mC m_M_begin) 136 = .ok (.iload 6, 2) := by decide +kernel
theorem d_M_begin_138 : decode (mC m_M_begin) 138 = .ok (.iconst 3, 1) := by decide +kernel
theorem d_M_begin_139 : decode (mC m_M_begin) 139 = .ok (.if_icmp .ge (22), 3) := by decide +kernel
theorem d_M_begin_142 : decode (mC m_M_begin) 142 = .ok (.aload_n 0, 1) := by decide +kernel
theorem d_M_begin_143 : decode (mC m_M_begin) 143 = .ok (.getfield 89, 3) := by decide +kernel
theorem d_M_begin_146 : decode (mC m_M_begin) 146 = .ok (.iconst 3, 1) := by decide +kernel
theorem d_M_begin_147 : decode (mC m_M_begin) 147 = .ok (.iload 5, 2) := by decide +kernel
theorem d_M_begin_149 : decode (mC m_M_begin) 149 = .ok (.imul, 1) := by decide +kernel
theorem d_M_begin_150 : decode (mC m_M_begin) 150 = .ok (.iload 6, 2) := by decide +kernel
theorem d_M_begin_152 : decode (mC m_M_begin) 152 = .ok (.iadd, 1) := by decide +kernel
theorem d_M_begin_153 : decode (mC m_M_begin) 153 = .ok (.iconst (-1), 1) := by decide +kernel
theorem d_M_begin_154 : decode (mC m_M_begin) 154 = .ok (.iastore, 1) := by decide +kernel
theorem d_M_begin_155 : decode (mC m_M_begin) 155 = .ok (.iinc 6 (1), 3) := by decide +kernel
theorem d_M_begin_158 : decode (mC m_M_begin) 158 = .ok (.goto (-22), 3) := by decide +kernel
theorem d_M_begin_161 : decode (mC m_M_begin) 161 = .ok (.aload_n 0, 1) := by decide +kernel
theorem d_M_begin_162 : decode (mC m_M_begin) 162 = .ok (.dup, 1) := by decide +kernel
theorem d_M_begin_163 : decode (mC m_M_begin) 163 = .ok (.getfield 232, 3) := by decide +kernel
theorem d_M_begin_166 : decode (mC m_M_begin) 166 = .ok (.iconst 1, 1) := by decide +kernel
theorem d_M_begin_167 : decode (mC m_M_begin) 167 = .ok (.iadd, 1) := by decide +kernel
theorem d_M_begin_168 : decode (mC m_M_begin) 168 = .ok (.putfield 232, 3) := by decide +kernel
theorem d_M_begin_171 : decode (mC m_M_begin) 171 = .ok (.aload_n 0, 1) := by decide +kernel
theorem d_M_begin_172 : decode (mC m_M_begin) 172 = .ok (.iload 5, 2) := by decide +kernel
theorem d_M_begin_174 : decode (mC m_M_begin) 174 = .ok (.iconst 0, 1) := by decide +kernel
theorem d_M_begin_175 : decode (mC m_M_begin) 175 = .ok (.invokevirtual 338, 3) := by decide +kernel
theorem d_M_begin_178 : decode (mC m_M_begin) 178 = .ok (.iload 5, 2) := by decide +kernel
theorem d_M_begin_180 : decode (mC m_M_begin) 180 = .ok (.ireturn, 1) := by decide +kernel
theorem d_K_findAttempt_0 : decode (mC m_K_findAttempt) 0 = .ok (.iload_n 1, 1) := by decide +kernel
theorem d_K_findAttempt_1 : decode (mC m_K_findAttempt) 1 = .ok (.aload_n 0, 1) := by decide +kernel
theorem d_K_findAttempt_2 : decode (mC m_K_findAttempt) 2 = .ok (.getfield 43, 3) := by decide +kernel
theorem d_K_findAttempt_5 : decode (mC m_K_findAttempt) 5 = .ok (.invokevirtual 134, 3) := by decide +kernel
theorem d_K_findAttempt_8 : decode (mC m_K_findAttempt) 8 = .ok (.invokestatic 148, 3) := by decide +kernel
theorem d_K_findAttempt_11 : decode (mC m_K_findAttempt) 11 = .ok (.aload_n 0, 1) := by decide +kernel
theorem d_K_findAttempt_12 : decode (mC m_K_findAttempt) 12 = .ok (.getfield 43, 3) := by decide +kernel
theorem d_K_findAttempt_15 : decode (mC m_K_findAttempt) 15 = .ok (.iload_n 1, 1) := by decide +kernel
theorem d_K_findAttempt_16 : decode (mC m_K_findAttempt) 16 = .ok (.invokevirtual 152, 3) := by decide +kernel
theorem d_K_findAttempt_19 : decode (mC m_K_findAttempt) 19 = .ok (.checkcast 166, 3) := by decide +kernel
theorem d_K_findAttempt_22 : decode (mC m_K_findAttempt) 22 = .ok (.areturn, 1) := by decide +kernel
theorem d_Person_takes_0 : decode (mC m_Person_takes) 0 = .ok (.iload_n 1, 1) := by decide +kernel
theorem d_Person_takes_1 : decode (mC m_Person_takes) 1 = .ok (.invokestatic 34, 3) := by decide +kernel
theorem d_Person_takes_4 : decode (mC m_Person_takes) 4 = .ok (.ifCond .eq (13), 3) := by decide +kernel
theorem d_Person_takes_7 : decode (mC m_Person_takes) 7 = .ok (.aload_n 0, 1) := by decide +kernel
theorem d_Person_takes_8 : decode (mC m_Person_takes) 8 = .ok (.getfield 9, 3) := by decide +kernel
theorem d_Person_takes_11 : decode (mC m_Person_takes) 11 = .ok (.iload_n 1, 1) := by decide +kernel
theorem d_Person_takes_12 : decode (mC m_Person_takes) 12 = .ok (.iaload, 1) := by decide +kernel
theorem d_Person_takes_13 : decode (mC m_Person_takes) 13 = .ok (.iconst 1, 1) := by decide +kernel
theorem d_Person_takes_14 : decode (mC m_Person_takes) 14 = .ok (.if_icmp .eq (5), 3) := by decide +kernel
theorem d_Person_takes_17 : decode (mC m_Person_takes) 17 = .ok (.iconst 0, 1) := by decide +kernel
theorem d_Person_takes_18 : decode (mC m_Person_takes) 18 = .ok (.ireturn, 1) := by decide +kernel
theorem d_Person_takes_19 : decode (mC m_Person_takes) 19 = .ok (.iload_n 2, 1) := by decide +kernel
theorem d_Person_takes_20 : decode (mC m_Person_takes) 20 = .ok (.ifCond .ne (32), 3) := by decide +kernel
theorem d_Person_takes_23 : decode (mC m_Person_takes) 23 = .ok (.aload_n 0, 1) := by decide +kernel
theorem d_Person_takes_24 : decode (mC m_Person_takes) 24 = .ok (.getfield 15, 3) := by decide +kernel
theorem d_Person_takes_27 : decode (mC m_Person_takes) 27 = .ok (.iload_n 1, 1) := by decide +kernel
theorem d_Person_takes_28 : decode (mC m_Person_takes) 28 = .ok (.dup2, 1) := by decide +kernel
theorem d_Person_takes_29 : decode (mC m_Person_takes) 29 = .ok (.iaload, 1) := by decide +kernel
theorem d_Person_takes_30 : decode (mC m_Person_takes) 30 = .ok (.iconst 1, 1) := by decide +kernel
theorem d_Person_takes_31 : decode (mC m_Person_takes) 31 = .ok (.iadd, 1) := by decide +kernel
theorem d_Person_takes_32 : decode (mC m_Person_takes) 32 = .ok (.iastore, 1) := by decide +kernel
theorem d_Person_takes_33 : decode (mC m_Person_takes) 33 = .ok (.aload_n 0, 1) := by decide +kernel
theorem d_Person_takes_34 : decode (mC m_Person_takes) 34 = .ok (.getfield 15, 3) := by decide +kernel
theorem d_Person_takes_37 : decode (mC m_Person_takes) 37 = .ok (.iload_n 1, 1) := by decide +kernel
theorem d_Person_takes_38 : decode (mC m_Person_takes) 38 = .ok (.iaload, 1) := by decide +kernel
theorem d_Person_takes_39 : decode (mC m_Person_takes) 39 = .ok (.iconst 5, 1) := by decide +kernel
theorem d_Person_takes_40 : decode (mC m_Person_takes) 40 = .ok (.if_icmp .lt (10), 3) := by decide +kernel
theorem d_Person_takes_43 : decode (mC m_Person_takes) 43 = .ok (.aload_n 0, 1) := by decide +kernel
theorem d_Person_takes_44 : decode (mC m_Person_takes) 44 = .ok (.getfield 9, 3) := by decide +kernel
theorem d_Person_takes_47 : decode (mC m_Person_takes) 47 = .ok (.iload_n 1, 1) := by decide +kernel
theorem d_Person_takes_48 : decode (mC m_Person_takes) 48 = .ok (.iconst 2, 1) := by decide +kernel
theorem d_Person_takes_49 : decode (mC m_Person_takes) 49 = .ok (.iastore, 1) := by decide +kernel
theorem d_Person_takes_50 : decode (mC m_Person_takes) 50 = .ok (.iconst 0, 1) := by decide +kernel
theorem d_Person_takes_51 : decode (mC m_Person_takes) 51 = .ok (.ireturn, 1) := by decide +kernel
theorem d_Person_takes_52 : decode (mC m_Person_takes) 52 = .ok (.iload_n 1, 1) := by decide +kernel
theorem d_Person_takes_53 : decode (mC m_Person_takes) 53 = .ok (.iconst 2, 1) := by decide +kernel
theorem d_Person_takes_54 : decode (mC m_Person_takes) 54 = .ok (.if_icmp .ne (20), 3) := by decide +kernel
theorem d_Person_takes_57 : decode (mC m_Person_takes) 57 = .ok (.iload_n 3, 1) := by decide +kernel
theorem d_Person_takes_58 : decode (mC m_Person_takes) 58 = .ok (.aload_n 0, 1) := by decide +kernel
theorem d_Person_takes_59 : decode (mC m_Person_takes) 59 = .ok (.getfield 38, 3) := by decide +kernel
theorem d_Person_takes_62 : decode (mC m_Person_takes) 62 = .ok (.if_icmp .gt (12), 3) := by decide +kernel
theorem d_Person_takes_65 : decode (mC m_Person_takes) 65 = .ok (.aload_n 0, 1) := by decide +kernel
theorem d_Person_takes_66 : decode (mC m_Person_takes) 66 = .ok (.getfield 9, 3) := by decide +kernel
theorem d_Person_takes_69 : decode (mC m_Person_takes) 69 = .ok (.iload_n 1, 1) := by decide +kernel
theorem d_Person_takes_70 : decode (mC m_Person_takes) 70 = .ok (.iconst 2, 1) := by decide +kernel
theorem d_Person_takes_71 : decode (mC m_Person_takes) 71 = .ok (.iastore, 1) := by decide +kernel
theorem d_Person_takes_72 : decode (mC m_Person_takes) 72 = .ok (.iconst 0, 1) := by decide +kernel
theorem d_Person_takes_73 : decode (mC m_Person_takes) 73 = .ok (.ireturn, 1) := by decide +kernel
theorem d_Person_takes_74 : decode (mC m_Person_takes) 74 = .ok (.aload_n 0, 1) := by decide +kernel
theorem d_Person_takes_75 : decode (mC m_Person_takes) 75 = .ok (.getfield 15, 3) := by decide +kernel
theorem d_Person_takes_78 : decode (mC m_Person_takes) 78 = .ok (.iload_n 1, 1) := by decide +kernel
theorem d_Person_takes_79 : decode (mC m_Person_takes) 79 = .ok (.iconst 0, 1) := by decide +kernel
theorem d_Person_takes_80 : decode (mC m_Person_takes) 80 = .ok (.iastore, 1) := by decide +kernel
theorem d_Person_takes_81 : decode (mC m_Person_takes) 81 = .ok (.iload_n 1, 1) := by decide +kernel
theorem d_Person_takes_82 : decode (mC m_Person_takes) 82 = .ok (.iconst 2, 1) := by decide +kernel
theorem d_Person_takes_83 : decode (mC m_Person_takes) 83 = .ok (.if_icmp .ne (8), 3) := by decide +kernel
theorem d_Person_takes_86 : decode (mC m_Person_takes) 86 = .ok (.aload_n 0, 1) := by decide +kernel
theorem d_Person_takes_87 : decode (mC m_Person_takes) 87 = .ok (.iload_n 3, 1) := by decide +kernel
theorem d_Person_takes_88 : decode (mC m_Person_takes) 88 = .ok (.putfield 38, 3) := by decide +kernel
theorem d_Person_takes_91 : decode (mC m_Person_takes) 91 = .ok (.iconst 1, 1) := by decide +kernel
theorem d_Person_takes_92 : decode (mC m_Person_takes) 92 = .ok (.ireturn, 1) := by decide +kernel
theorem d_Person_noteWrong_0 : decode (mC m_Person_noteWrong) 0 = .ok (.aload_n 0, 1) := by decide +kernel
theorem d_Person_noteWrong_1 : decode (mC m_Person_noteWrong) 1 = .ok (.aload_n 0, 1) := by decide +kernel
theorem d_Person_noteWrong_2 : decode (mC m_Person_noteWrong) 2 = .ok (.getfield 22, 3) := by decide +kernel
theorem d_Person_noteWrong_5 : decode (mC m_Person_noteWrong) 5 = .ok (.putfield 25, 3) := by decide +kernel
theorem d_Person_noteWrong_8 : decode (mC m_Person_noteWrong) 8 = .ok (.aload_n 0, 1) := by decide +kernel
theorem d_Person_noteWrong_9 : decode (mC m_Person_noteWrong) 9 = .ok (.aload_n 0, 1) := by decide +kernel
theorem d_Person_noteWrong_10 : decode (mC m_Person_noteWrong) 10 = .ok (.getfield 18, 3) := by decide +kernel
theorem d_Person_noteWrong_13 : decode (mC m_Person_noteWrong) 13 = .ok (.putfield 22, 3) := by decide +kernel
theorem d_Person_noteWrong_16 : decode (mC m_Person_noteWrong) 16 = .ok (.aload_n 0, 1) := by decide +kernel
theorem d_Person_noteWrong_17 : decode (mC m_Person_noteWrong) 17 = .ok (.iload_n 1, 1) := by decide +kernel
theorem d_Person_noteWrong_18 : decode (mC m_Person_noteWrong) 18 = .ok (.putfield 18, 3) := by decide +kernel
theorem d_Person_noteWrong_21 : decode (mC m_Person_noteWrong) 21 = .ok (.return_, 1) := by decide +kernel
theorem d_K_isAnsweredRight_0 : decode (mC m_K_isAnsweredRight) 0 = .ok (.aload_n 1, 1) := by decide +kernel
theorem d_K_isAnsweredRight_1 : decode (mC m_K_isAnsweredRight) 1 = .ok (.iload_n 2, 1) := by decide +kernel
theorem d_K_isAnsweredRight_2 : decode (mC m_K_isAnsweredRight) 2 = .ok (.invokevirtual 116, 3) := by decide +kernel
theorem d_K_isAnsweredRight_5 : decode (mC m_K_isAnsweredRight) 5 = .ok (.iconst 1, 1) := by decide +kernel
theorem d_K_isAnsweredRight_6 : decode (mC m_K_isAnsweredRight) 6 = .ok (.if_icmp .ne (7), 3) := by decide +kernel
theorem d_K_isAnsweredRight_9 : decode (mC m_K_isAnsweredRight) 9 = .ok (.iconst 1, 1) := by decide +kernel
theorem d_K_isAnsweredRight_10 : decode (mC m_K_isAnsweredRight) 10 = .ok (.goto (4), 3) := by decide +kernel
theorem d_K_isAnsweredRight_13 : decode (mC m_K_isAnsweredRight) 13 = .ok (.iconst 0, 1) := by decide +kernel
theorem d_K_isAnsweredRight_14 : decode (mC m_K_isAnsweredRight) 14 = .ok (.istore 5, 2) := by decide +kernel
theorem d_K_isAnsweredRight_16 : decode (mC m_K_isAnsweredRight) 16 = .ok (.aload_n 1, 1) := by decide +kernel
theorem d_K_isAnsweredRight_17 : decode (mC m_K_isAnsweredRight) 17 = .ok (.iload_n 2, 1) := by decide +kernel
theorem d_K_isAnsweredRight_18 : decode (mC m_K_isAnsweredRight) 18 = .ok (.iload_n 3, 1) := by decide +kernel
theorem d_K_isAnsweredRight_19 : decode (mC m_K_isAnsweredRight) 19 = .ok (.iload 4, 2) := by decide +kernel
theorem d_K_isAnsweredRight_21 : decode (mC m_K_isAnsweredRight) 21 = .ok (.invokevirtual 471, 3) := by decide +kernel
theorem d_K_isAnsweredRight_24 : decode (mC m_K_isAnsweredRight) 24 = .ok (.istore 6, 2) := by decide +kernel
theorem d_K_isAnsweredRight_26 : decode (mC m_K_isAnsweredRight) 26 = .ok (.iload 6, 2) := by decide +kernel
theorem d_K_isAnsweredRight_28 : decode (mC m_K_isAnsweredRight) 28 = .ok (.ifCond .ne (11), 3) := by decide +kernel
theorem d_K_isAnsweredRight_31 : decode (mC m_K_isAnsweredRight) 31 = .ok (.aload_n 1, 1) := by decide +kernel
theorem d_K_isAnsweredRight_32 : decode (mC m_K_isAnsweredRight) 32 = .ok (.aload_n 0, 1) := by decide +kernel
theorem d_K_isAnsweredRight_33 : decode (mC m_K_isAnsweredRight) 33 = .ok (.getfield 92, 3) := by decide +kernel
theorem d_K_isAnsweredRight_36 : decode (mC m_K_isAnsweredRight) 36 = .ok (.invokevirtual 475, 3) := by decide +kernel
theorem d_K_isAnsweredRight_39 : decode (mC m_K_isAnsweredRight) 39 = .ok (.iload 5, 2) := by decide +kernel
theorem d_K_isAnsweredRight_41 : decode (mC m_K_isAnsweredRight) 41 = .ok (.ifCond .eq (32), 3) := by decide +kernel
theorem d_K_isAnsweredRight_44 : decode (mC m_K_isAnsweredRight) 44 = .ok (.aload_n 1, 1) := by decide +kernel
theorem d_K_isAnsweredRight_45 : decode (mC m_K_isAnsweredRight) 45 = .ok (.iload_n 2, 1) := by decide +kernel
theorem d_K_isAnsweredRight_46 : decode (mC m_K_isAnsweredRight) 46 = .ok (.invokevirtual 116, 3) := by decide +kernel
theorem d_K_isAnsweredRight_49 : decode (mC m_K_isAnsweredRight) 49 = .ok (.iconst 2, 1) := by decide +kernel
theorem d_K_isAnsweredRight_50 : decode (mC m_K_isAnsweredRight) 50 = .ok (.if_icmp .ne (23), 3) := by decide +kernel
theorem d_K_isAnsweredRight_53 : decode (mC m_K_isAnsweredRight) 53 = .ok (.aload_n 0, 1) := by decide +kernel
theorem d_K_isAnsweredRight_54 : decode (mC m_K_isAnsweredRight) 54 = .ok (.getfield 10, 3) := by decide +kernel
theorem d_K_isAnsweredRight_57 : decode (mC m_K_isAnsweredRight) 57 = .ok (.iconst 4, 1) := by decide +kernel
theorem d_K_isAnsweredRight_58 : decode (mC m_K_isAnsweredRight) 58 = .ok (.iconst 3, 1) := by decide +kernel
theorem d_K_isAnsweredRight_59 : decode (mC m_K_isAnsweredRight) 59 = .ok (.aload_n 1, 1) := by decide +kernel
theorem d_K_isAnsweredRight_60 : decode (mC m_K_isAnsweredRight) 60 = .ok (.getfield 403, 3) := by decide +kernel
theorem d_K_isAnsweredRight_63 : decode (mC m_K_isAnsweredRight) 63 = .ok (.imul, 1) := by decide +kernel
theorem d_K_isAnsweredRight_64 : decode (mC m_K_isAnsweredRight) 64 = .ok (.iload_n 2, 1) := by decide +kernel
theorem d_K_isAnsweredRight_65 : decode (mC m_K_isAnsweredRight) 65 = .ok (.iadd, 1) := by decide +kernel
theorem d_K_isAnsweredRight_66 : decode (mC m_K_isAnsweredRight) 66 = .ok (.aload_n 0, 1) := by decide +kernel
theorem d_K_isAnsweredRight_67 : decode (mC m_K_isAnsweredRight) 67 = .ok (.getfield 92, 3) := by decide +kernel
theorem d_K_isAnsweredRight_70 : decode (mC m_K_isAnsweredRight) 70 = .ok (.invokevirtual 351, 3) := by decide +kernel
theorem d_K_isAnsweredRight_73 : decode (mC m_K_isAnsweredRight) 73 = .ok (.iload 6, 2) := by decide +kernel
theorem d_K_isAnsweredRight_75 : decode (mC m_K_isAnsweredRight) 75 = .ok (.ireturn, 1) := by decide +kernel
theorem d_Shown_show_0 : decode (mC m_Shown_show) 0 = .ok (.iload_n 1, 1) := by decide +kernel
theorem d_Shown_show_1 : decode (mC m_Shown_show) 1 = .ok (.invokestatic 15, 3) := by decide +kernel
theorem d_Shown_show_4 : decode (mC m_Shown_show) 4 = .ok (.ifCond .eq (10), 3) := by decide +kernel
theorem d_Shown_show_7 : decode (mC m_Shown_show) 7 = .ok (.aload_n 0, 1) := by decide +kernel
theorem d_Shown_show_8 : decode (mC m_Shown_show) 8 = .ok (.getfield 9, 3) := by decide +kernel
theorem d_Shown_show_11 : decode (mC m_Shown_show) 11 = .ok (.iload_n 1, 1) := by decide +kernel
theorem d_Shown_show_12 : decode (mC m_Shown_show) 12 = .ok (.iload_n 2, 1) := by decide +kernel
theorem d_Shown_show_13 : decode (mC m_Shown_show) 13 = .ok (.iastore, 1) := by decide +kernel
theorem d_Shown_show_14 : decode (mC m_Shown_show) 14 = .ok (.return_, 1) := by decide +kernel
theorem d_Flow_secondOf_0 : decode (mC m_Flow_secondOf) 0 = .ok (.aload_n 0, 1) := by decide +kernel
theorem d_Flow_secondOf_1 : decode (mC m_Flow_secondOf) 1 = .ok (.iload_n 1, 1) := by decide +kernel
theorem d_Flow_secondOf_2 : decode (mC m_Flow_secondOf) 2 = .ok (.invokevirtual 31, 3) := by decide +kernel
theorem d_Flow_secondOf_5 : decode (mC m_Flow_secondOf) 5 = .ok (.ifCond .eq (12), 3) := by decide +kernel
theorem d_Flow_secondOf_8 : decode (mC m_Flow_secondOf) 8 = .ok (.aload_n 0, 1) := by decide +kernel
theorem d_Flow_secondOf_9 : decode (mC m_Flow_secondOf) 9 = .ok (.getfield 18, 3) := by decide +kernel
theorem d_Flow_secondOf_12 : decode (mC m_Flow_secondOf) 12 = .ok (.iload_n 1, 1) := by decide +kernel
theorem d_Flow_secondOf_13 : decode (mC m_Flow_secondOf) 13 = .ok (.iaload, 1) := by decide +kernel
theorem d_Flow_secondOf_14 : decode (mC m_Flow_secondOf) 14 = .ok (.goto (4), 3) := by decide +kernel
theorem d_Flow_secondOf_17 : decode (mC m_Flow_secondOf) 17 = .ok (.iconst 0, 1) := by decide +kernel
theorem d_Flow_secondOf_18 : decode (mC m_Flow_secondOf) 18 = .ok (.ireturn, 1) := by decide +kernel
theorem d_K_takeAnswer_0 : decode (mC m_K_takeAnswer) 0 = .ok (.aload_n 1, 1) := by decide +kernel
theorem d_K_takeAnswer_1 : decode (mC m_K_takeAnswer) 1 = .ok (.getfield 186, 3) := by decide +kernel
theorem d_K_takeAnswer_4 : decode (mC m_K_takeAnswer) 4 = .ok (.astore 4, 2) := by decide +kernel
theorem d_K_takeAnswer_6 : decode (mC m_K_takeAnswer) 6 = .ok (.aload 4, 2) := by decide +kernel
theorem d_K_takeAnswer_8 : decode (mC m_K_takeAnswer) 8 = .ok (.aload_n 1, 1) := by decide +kernel
theorem d_K_takeAnswer_9 : decode (mC m_K_takeAnswer) 9 = .ok (.getfield 189, 3) := by decide +kernel
theorem d_K_takeAnswer_12 : decode (mC m_K_takeAnswer) 12 = .ok (.invokevirtual 192, 3) := by decide +kernel
theorem d_K_takeAnswer_15 : decode (mC m_K_takeAnswer) 15 = .ok (.istore 5, 2) := by decide +kernel
theorem d_K_takeAnswer_17 : decode (mC m_K_takeAnswer) 17 = .ok (.aload_n 1, 1) := by decide +kernel
theorem d_K_takeAnswer_18 : decode (mC m_K_takeAnswer) 18 = .ok (.dup, 1) := by decide +kernel
theorem d_K_takeAnswer_19 : decode (mC m_K_takeAnswer) 19 = .ok (.getfield 478, 3) := by decide +kernel
theorem d_K_takeAnswer_22 : decode (mC m_K_takeAnswer) 22 = .ok (.iconst 1, 1) := by decide +kernel
theorem d_K_takeAnswer_23 : decode (mC m_K_takeAnswer) 23 = .ok (.iadd, 1) := by decide +kernel
theorem d_K_takeAnswer_24 : decode (mC m_K_takeAnswer) 24 = .ok (.putfield 478, 3) := by decide +kernel
theorem d_K_takeAnswer_27 : decode (mC m_K_takeAnswer) 27 = .ok (.aload_n 0, 1) := by decide +kernel
theorem d_K_takeAnswer_28 : decode (mC m_K_takeAnswer) 28 = .ok (.aload_n 1, 1) := by decide +kernel
theorem d_K_takeAnswer_29 : decode (mC m_K_takeAnswer) 29 = .ok (.getfield 481, 3) := by decide +kernel
theorem d_K_takeAnswer_32 : decode (mC m_K_takeAnswer) 32 = .ok (.iload 5, 2) := by decide +kernel
theorem d_K_takeAnswer_34 : decode (mC m_K_takeAnswer) 34 = .ok (.iload_n 2, 1) := by decide +kernel
theorem d_K_takeAnswer_35 : decode (mC m_K_takeAnswer) 35 = .ok (.iload_n 3, 1) := by decide +kernel
theorem d_K_takeAnswer_36 : decode (mC m_K_takeAnswer) 36 = .ok (.invokevirtual 229, 3) := by decide +kernel
theorem d_K_takeAnswer_39 : decode (mC m_K_takeAnswer) 39 = .ok (.ifCond .eq (34), 3) := by decide +kernel
theorem d_K_takeAnswer_42 : decode (mC m_K_takeAnswer) 42 = .ok (.aload_n 1, 1) := by decide +kernel
theorem d_K_takeAnswer_43 : decode (mC m_K_takeAnswer) 43 = .ok (.getfield 482, 3) := by decide +kernel
theorem d_K_takeAnswer_46 : decode (mC m_K_takeAnswer) 46 = .ok (.iload 5, 2) := by decide +kernel
theorem d_K_takeAnswer_48 : decode (mC m_K_takeAnswer) 48 = .ok (.aload_n 0, 1) := by decide +kernel
theorem d_K_takeAnswer_49 : decode (mC m_K_takeAnswer) 49 = .ok (.getfield 92, 3) := by decide +kernel
theorem d_K_takeAnswer_52 : decode (mC m_K_takeAnswer) 52 = .ok (.invokevirtual 237, 3) := by decide +kernel
theorem d_K_takeAnswer_55 : decode (mC m_K_takeAnswer) 55 = .ok (.aload_n 0, 1) := by decide +kernel
theorem d_K_takeAnswer_56 : decode (mC m_K_takeAnswer) 56 = .ok (.aload_n 1, 1) := by decide +kernel
theorem d_K_takeAnswer_57 : decode (mC m_K_takeAnswer) 57 = .ok (.aload 4, 2) := by decide +kernel
theorem d_K_takeAnswer_59 : decode (mC m_K_takeAnswer) 59 = .ok (.aload_n 1, 1) := by decide +kernel
theorem d_K_takeAnswer_60 : decode (mC m_K_takeAnswer) 60 = .ok (.getfield 189, 3) := by decide +kernel
theorem d_K_takeAnswer_63 : decode (mC m_K_takeAnswer) 63 = .ok (.iconst 1, 1) := by decide +kernel
theorem d_K_takeAnswer_64 : decode (mC m_K_takeAnswer) 64 = .ok (.invokevirtual 483, 3) := by decide +kernel
theorem d_K_takeAnswer_67 : decode (mC m_K_takeAnswer) 67 = .ok (.invokevirtual 171, 3) := by decide +kernel
theorem d_K_takeAnswer_70 : decode (mC m_K_takeAnswer) 70 = .ok (.goto (44), 3) := by decide +kernel
theorem d_K_takeAnswer_73 : decode (mC m_K_takeAnswer) 73 = .ok (.aload_n 1, 1) := by decide +kernel
theorem d_K_takeAnswer_74 : decode (mC m_K_takeAnswer) 74 = .ok (.dup, 1) := by decide +kernel
theorem d_K_takeAnswer_75 : decode (mC m_K_takeAnswer) 75 = .ok (.getfield 487, 3) := by decide +kernel
theorem d_K_takeAnswer_78 : decode (mC m_K_takeAnswer) 78 = .ok (.iconst 1, 1) := by decide +kernel
theorem d_K_takeAnswer_79 : decode (mC m_K_takeAnswer) 79 = .ok (.iadd, 1) := by decide +kernel
theorem d_K_takeAnswer_80 : decode (mC m_K_takeAnswer) 80 = .ok (.putfield 487, 3) := by decide +kernel
theorem d_K_takeAnswer_83 : decode (mC m_K_takeAnswer) 83 = .ok (.aload_n 1, 1) := by decide +kernel
theorem d_K_takeAnswer_84 : decode (mC m_K_takeAnswer) 84 = .ok (.getfield 487, 3) := by decide +kernel
theorem d_K_takeAnswer_87 : decode (mC m_K_takeAnswer) 87 = .ok (.aload 4, 2) := by decide +kernel
theorem d_K_takeAnswer_89 : decode (mC m_K_takeAnswer) 89 = .ok (.aload_n 1, 1) := by decide +kernel
theorem d_K_takeAnswer_90 : decode (mC m_K_takeAnswer) 90 = .ok (.getfield 189, 3) := by decide +kernel
theorem d_K_takeAnswer_93 : decode (mC m_K_takeAnswer) 93 = .ok (.invokevirtual 490, 3) := by decide +kernel
theorem d_K_takeAnswer_96 : decode (mC m_K_takeAnswer) 96 = .ok (.if_icmp .lt (18), 3) := by decide +kernel
theorem d_K_takeAnswer_99 : decode (mC m_K_takeAnswer) 99 = .ok (.aload_n 0, 1) := by decide +kernel
theorem d_K_takeAnswer_100 : decode (mC m_K_takeAnswer) 100 = .ok (.aload_n 1, 1) := by decide +kernel
theorem d_K_takeAnswer_101 : decode (mC m_K_takeAnswer) 101 = .ok (.aload 4, 2) := by decide +kernel
theorem d_K_takeAnswer_103 : decode (mC m_K_takeAnswer) 103 = .ok (.aload_n 1, 1) := by decide +kernel
theorem d_K_takeAnswer_104 : decode (mC m_K_takeAnswer) 104 = .ok (.getfield 189, 3) := by decide +kernel
theorem d_K_takeAnswer_107 : decode (mC m_K_takeAnswer) 107 = .ok (.iconst 0, 1) := by decide +kernel
theorem d_K_takeAnswer_108 : decode (mC m_K_takeAnswer) 108 = .ok (.invokevirtual 483, 3) := by decide +kernel
theorem d_K_takeAnswer_111 : decode (mC m_K_takeAnswer) 111 = .ok (.invokevirtual 171, 3) := by decide +kernel
theorem d_K_takeAnswer_114 : decode (mC m_K_takeAnswer) 114 = .ok (.aload_n 1, 1) := by decide +kernel
theorem d_K_takeAnswer_115 : decode (mC m_K_takeAnswer) 115 = .ok (.getfield 179, 3) := by decide +kernel
theorem d_K_takeAnswer_118 : decode (mC m_K_takeAnswer) 118 = .ok (.ifCond .ne (17), 3) := by decide +kernel
theorem d_K_takeAnswer_121 : decode (mC m_K_takeAnswer) 121 = .ok (.aload_n 1, 1) := by decide +kernel
theorem d_K_takeAnswer_122 : decode (mC m_K_takeAnswer) 122 = .ok (.getfield 478, 3) := by decide +kernel
theorem d_K_takeAnswer_125 : decode (mC m_K_takeAnswer) 125 = .ok (.bipush (12), 2) := by decide +kernel
theorem d_K_takeAnswer_127 : decode (mC m_K_takeAnswer) 127 = .ok (.if_icmp .lt (8), 3) := by decide +kernel
theorem d_K_takeAnswer_130 : decode (mC m_K_takeAnswer) 130 = .ok (.aload_n 1, 1) := by decide +kernel
theorem d_K_takeAnswer_131 : decode (mC m_K_takeAnswer) 131 = .ok (.iconst 2, 1) := by decide +kernel
theorem d_K_takeAnswer_132 : decode (mC m_K_takeAnswer) 132 = .ok (.putfield 179, 3) := by decide +kernel
theorem d_K_takeAnswer_135 : decode (mC m_K_takeAnswer) 135 = .ok (.return_, 1) := by decide +kernel
theorem d_K_answer_0 : decode (mC m_K_answer) 0 = .ok (.aload_n 0, 1) := by decide +kernel
theorem d_K_answer_1 : decode (mC m_K_answer) 1 = .ok (.iload_n 1, 1) := by decide +kernel
theorem d_K_answer_2 : decode (mC m_K_answer) 2 = .ok (.invokevirtual 175, 3) := by decide +kernel
theorem d_K_answer_5 : decode (mC m_K_answer) 5 = .ok (.astore 4, 2) := by decide +kernel
theorem d_K_answer_7 : decode (mC m_K_answer) 7 = .ok (.iload_n 3, 1) := by decide +kernel
theorem d_K_answer_8 : decode (mC m_K_answer) 8 = .ok (.iconst 0, 1) := by decide +kernel
theorem d_K_answer_9 : decode (mC m_K_answer) 9 = .ok (.sipush (9999), 3) := by decide +kernel
theorem d_K_answer_12 : decode (mC m_K_answer) 12 = .ok (.invokestatic 84, 3) := by decide +kernel
theorem d_K_answer_15 : decode (mC m_K_answer) 15 = .ok (.invokestatic 88, 3) := by decide +kernel
theorem d_K_answer_18 : decode (mC m_K_answer) 18 = .ok (.aload 4, 2) := by decide +kernel
theorem d_K_answer_20 : decode (mC m_K_answer) 20 = .ok (.getfield 179, 3) := by decide +kernel
theorem d_K_answer_23 : decode (mC m_K_answer) 23 = .ok (.ifCond .ne (7), 3) := by decide +kernel
theorem d_K_answer_26 : decode (mC m_K_answer) 26 = .ok (.iconst 1, 1) := by decide +kernel
theorem d_K_answer_27 : decode (mC m_K_answer) 27 = .ok (.goto (4), 3) := by decide +kernel
theorem d_K_answer_30 : decode (mC m_K_answer) 30 = .ok (.iconst 0, 1) := by decide +kernel
theorem d_K_answer_31 : decode (mC m_K_answer) 31 = .ok (.invokestatic 96, 3) := by decide +kernel
theorem d_K_answer_34 : decode (mC m_K_answer) 34 = .ok (.aload_n 0, 1) := by decide +kernel
theorem d_K_answer_35 : decode (mC m_K_answer) 35 = .ok (.aload 4, 2) := by decide +kernel
theorem d_K_answer_37 : decode (mC m_K_answer) 37 = .ok (.iload_n 2, 1) := by decide +kernel
theorem d_K_answer_38 : decode (mC m_K_answer) 38 = .ok (.iload_n 3, 1) := by decide +kernel
theorem d_K_answer_39 : decode (mC m_K_answer) 39 = .ok (.invokevirtual 182, 3) := by decide +kernel
theorem d_K_answer_42 : decode (mC m_K_answer) 42 = .ok (.aload 4, 2) := by decide +kernel
theorem d_K_answer_44 : decode (mC m_K_answer) 44 = .ok (.getfield 179, 3) := by decide +kernel
theorem d_K_answer_47 : decode (mC m_K_answer) 47 = .ok (.ireturn, 1) := by decide +kernel
theorem d_W_answer_0 : decode (mC m_W_answer) 0 = .ok (.aload 4, 2) := by decide +kernel
theorem d_W_answer_2 : decode (mC m_W_answer) 2 = .ok (.iconst 0, 1) := by decide +kernel
theorem d_W_answer_3 : decode (mC m_W_answer) 3 = .ok (.aload_n 0, 1) := by decide +kernel
theorem d_W_answer_4 : decode (mC m_W_answer) 4 = .ok (.iload_n 1, 1) := by decide +kernel
theorem d_W_answer_5 : decode (mC m_W_answer) 5 = .ok (.iload_n 2, 1) := by decide +kernel
theorem d_W_answer_6 : decode (mC m_W_answer) 6 = .ok (.iload_n 3, 1) := by decide +kernel
theorem d_W_answer_7 : decode (mC m_W_answer) 7 = .ok (.invokevirtual 45, 3) := by decide +kernel
theorem d_W_answer_10 : decode (mC m_W_answer) 10 = .ok (.i2l, 1) := by decide +kernel
theorem d_W_answer_11 : decode (mC m_W_answer) 11 = .ok (.lastore, 1) := by decide +kernel
theorem d_W_answer_12 : decode (mC m_W_answer) 12 = .ok (.goto (15), 3) := by decide +kernel
theorem d_W_answer_15 : decode (mC m_W_answer) 15 = .ok (.astore 5, 2) := by decide +kernel
theorem d_W_answer_17 : decode (mC m_W_answer) 17 = .ok (.iconst 1, 1) := by decide +kernel
theorem d_W_answer_18 : decode (mC m_W_answer) 18 = .ok (.ireturn, 1) := by decide +kernel
theorem d_W_answer_19 : decode (mC m_W_answer) 19 = .ok (.astore 5, 2) := by decide +kernel
theorem d_W_answer_21 : decode (mC m_W_answer) 21 = .ok (.iconst 2, 1) := by decide +kernel
theorem d_W_answer_22 : decode (mC m_W_answer) 22 = .ok (.ireturn, 1) := by decide +kernel
theorem d_W_answer_23 : decode (mC m_W_answer) 23 = .ok (.astore 5, 2) := by decide +kernel
theorem d_W_answer_25 : decode (mC m_W_answer) 25 = .ok (.iconst 3, 1) := by decide +kernel
theorem d_W_answer_26 : decode (mC m_W_answer) 26 = .ok (.ireturn, 1) := by decide +kernel
theorem d_W_answer_27 : decode (mC m_W_answer) 27 = .ok (.iconst 0, 1) := by decide +kernel
theorem d_W_answer_28 : decode (mC m_W_answer) 28 = .ok (.ireturn, 1) := by decide +kernel
theorem d_M_isAttempt_0 : decode (mC m_M_isAttempt) 0 = .ok (.iload_n 1, 1) := by decide +kernel
theorem d_M_isAttempt_1 : decode (mC m_M_isAttempt) 1 = .ok (.iconst 0, 1) := by decide +kernel
theorem d_M_isAttempt_2 : decode (mC m_M_isAttempt) 2 = .ok (.aload_n 0, 1) := by decide +kernel
theorem d_M_isAttempt_3 : decode (mC m_M_isAttempt) 3 = .ok (.getfield 232, 3) := by decide +kernel
theorem d_M_isAttempt_6 : decode (mC m_M_isAttempt) 6 = .ok (.iconst 1, 1) := by decide +kernel
theorem d_M_isAttempt_7 : decode (mC m_M_isAttempt) 7 = .ok (.isub, 1) := by decide +kernel
theorem d_M_isAttempt_8 : decode (mC m_M_isAttempt) 8 = .ok (.invokestatic 228, 3) := by decide +kernel
theorem d_M_isAttempt_11 : decode (mC m_M_isAttempt) 11 = .ok (.ireturn, 1) := by decide +kernel
theorem d_M_mayAll_0 : decode (mC m_M_mayAll) 0 = .ok (.aload_n 0, 1) := by decide +kernel
theorem d_M_mayAll_1 : decode (mC m_M_mayAll) 1 = .ok (.iload_n 1, 1) := by decide +kernel
theorem d_M_mayAll_2 : decode (mC m_M_mayAll) 2 = .ok (.ifCond .ne (7), 3) := by decide +kernel
theorem d_M_mayAll_5 : decode (mC m_M_mayAll) 5 = .ok (.iconst 1, 1) := by decide +kernel
theorem d_M_mayAll_6 : decode (mC m_M_mayAll) 6 = .ok (.goto (20), 3) := by decide +kernel
theorem d_M_mayAll_9 : decode (mC m_M_mayAll) 9 = .ok (.iload_n 2, 1) := by decide +kernel
theorem d_M_mayAll_10 : decode (mC m_M_mayAll) 10 = .ok (.ifCond .ne (7), 3) := by decide +kernel
theorem d_M_mayAll_13 : decode (mC m_M_mayAll) 13 = .ok (.iconst 2, 1) := by decide +kernel
theorem d_M_mayAll_14 : decode (mC m_M_mayAll) 14 = .ok (.goto (12), 3) := by decide +kernel
theorem d_M_mayAll_17 : decode (mC m_M_mayAll) 17 = .ok (.iload_n 3, 1) := by decide +kernel
theorem d_M_mayAll_18 : decode (mC m_M_mayAll) 18 = .ok (.ifCond .ne (7), 3) := by decide +kernel
theorem d_M_mayAll_21 : decode (mC m_M_mayAll) 21 = .ok (.iconst 3, 1) := by decide +kernel
theorem d_M_mayAll_22 : decode (mC m_M_mayAll) 22 = .ok (.goto (4), 3) := by decide +kernel
theorem d_M_mayAll_25 : decode (mC m_M_mayAll) 25 = .ok (.iconst 0, 1) := by decide +kernel
theorem d_M_mayAll_26 : decode (mC m_M_mayAll) 26 = .ok (.putfield 225, 3) := by decide +kernel
theorem d_M_mayAll_29 : decode (mC m_M_mayAll) 29 = .ok (.aload_n 0, 1) := by decide +kernel
theorem d_M_mayAll_30 : decode (mC m_M_mayAll) 30 = .ok (.getfield 225, 3) := by decide +kernel
theorem d_M_mayAll_33 : decode (mC m_M_mayAll) 33 = .ok (.ifCond .ne (7), 3) := by decide +kernel
theorem d_M_mayAll_36 : decode (mC m_M_mayAll) 36 = .ok (.iconst 1, 1) := by decide +kernel
theorem d_M_mayAll_37 : decode (mC m_M_mayAll) 37 = .ok (.goto (4), 3) := by decide +kernel
theorem d_M_mayAll_40 : decode (mC m_M_mayAll) 40 = .ok (.iconst 0, 1) := by decide +kernel
theorem d_M_mayAll_41 : decode (mC m_M_mayAll) 41 = .ok (.ireturn, 1) := by decide +kernel
theorem d_M_suspend_0 : decode (mC m_M_suspend) 0 = .ok (.aload_n 0, 1) := by decide +kernel
theorem d_M_suspend_1 : decode (mC m_M_suspend) 1 = .ok (.getfield 7, 3) := by decide +kernel
theorem d_M_suspend_4 : decode (mC m_M_suspend) 4 = .ok (.iconst 3, 1) := by decide +kernel
theorem d_M_suspend_5 : decode (mC m_M_suspend) 5 = .ok (.iload_n 1, 1) := by decide +kernel
theorem d_M_suspend_6 : decode (mC m_M_suspend) 6 = .ok (.imul, 1) := by decide +kernel
theorem d_M_suspend_7 : decode (mC m_M_suspend) 7 = .ok (.iload_n 2, 1) := by decide +kernel
theorem d_M_suspend_8 : decode (mC m_M_suspend) 8 = .ok (.iadd, 1) := by decide +kernel
theorem d_M_suspend_9 : decode (mC m_M_suspend) 9 = .ok (.iconst 2, 1) := by decide +kernel
theorem d_M_suspend_10 : decode (mC m_M_suspend) 10 = .ok (.iastore, 1) := by decide +kernel
theorem d_M_suspend_11 : decode (mC m_M_suspend) 11 = .ok (.aload_n 0, 1) := by decide +kernel
theorem d_M_suspend_12 : decode (mC m_M_suspend) 12 = .ok (.iconst 4, 1) := by decide +kernel
theorem d_M_suspend_13 : decode (mC m_M_suspend) 13 = .ok (.iconst 3, 1) := by decide +kernel
theorem d_M_suspend_14 : decode (mC m_M_suspend) 14 = .ok (.iload_n 1, 1) := by decide +kernel
theorem d_M_suspend_15 : decode (mC m_M_suspend) 15 = .ok (.imul, 1) := by decide +kernel
theorem d_M_suspend_16 : decode (mC m_M_suspend) 16 = .ok (.iload_n 2, 1) := by decide +kernel
theorem d_M_suspend_17 : decode (mC m_M_suspend) 17 = .ok (.iadd, 1) := by decide +kernel
theorem d_M_suspend_18 : decode (mC m_M_suspend) 18 = .ok (.invokevirtual 255, 3) := by decide +kernel
theorem d_M_suspend_21 : decode (mC m_M_suspend) 21 = .ok (.return_, 1) := by decide +kernel
theorem d_M_answers_0 : decode (mC m_M_answers) 0 = .ok (.iconst 3, 1) := by decide +kernel
theorem d_M_answers_1 : decode (mC m_M_answers) 1 = .ok (.iload_n 1, 1) := by decide +kernel
theorem d_M_answers_2 : decode (mC m_M_answers) 2 = .ok (.imul, 1) := by decide +kernel
theorem d_M_answers_3 : decode (mC m_M_answers) 3 = .ok (.iload_n 2, 1) := by decide +kernel
theorem d_M_answers_4 : decode (mC m_M_answers) 4 = .ok (.iadd, 1) := by decide +kernel
theorem d_M_answers_5 : decode (mC m_M_answers) 5 = .ok (.istore 5, 2) := by decide +kernel
theorem d_M_answers_7 : decode (mC m_M_answers) 7 = .ok (.aload_n 0, 1) := by decide +kernel
theorem d_M_answers_8 : decode (mC m_M_answers) 8 = .ok (.getfield 7, 3) := by decide +kernel
theorem d_M_answers_11 : decode (mC m_M_answers) 11 = .ok (.iload 5, 2) := by decide +kernel
theorem d_M_answers_13 : decode (mC m_M_answers) 13 = .ok (.iaload, 1) := by decide +kernel
theorem d_M_answers_14 : decode (mC m_M_answers) 14 = .ok (.iconst 1, 1) := by decide +kernel
theorem d_M_answers_15 : decode (mC m_M_answers) 15 = .ok (.if_icmp .ne (103), 3) := by decide +kernel
theorem d_M_answers_18 : decode (mC m_M_answers) 18 = .ok (.iload_n 2, 1) := by decide +kernel
theorem d_M_answers_19 : decode (mC m_M_answers) 19 = .ok (.iconst 2, 1) := by decide +kernel
theorem d_M_answers_20 : decode (mC m_M_answers) 20 = .ok (.if_icmp .ne (22), 3) := by decide +kernel
theorem d_M_answers_23 : decode (mC m_M_answers) 23 = .ok (.iload_n 3, 1) := by decide +kernel
theorem d_M_answers_24 : decode (mC m_M_answers) 24 = .ok (.ifCond .eq (18), 3) := by decide +kernel
theorem d_M_answers_27 : decode (mC m_M_answers) 27 = .ok (.iload 4, 2) := by decide +kernel
theorem d_M_answers_29 : decode (mC m_M_answers) 29 = .ok (.aload_n 0, 1) := by decide +kernel
theorem d_M_answers_30 : decode (mC m_M_answers) 30 = .ok (.getfield 16, 3) := by decide +kernel
theorem d_M_answers_33 : decode (mC m_M_answers) 33 = .ok (.iload_n 1, 1) := by decide +kernel
theorem d_M_answers_34 : decode (mC m_M_answers) 34 = .ok (.iaload, 1) := by decide +kernel
theorem d_M_answers_35 : decode (mC m_M_answers) 35 = .ok (.if_icmp .gt (7), 3) := by decide +kernel
theorem d_M_answers_38 : decode (mC m_M_answers) 38 = .ok (.iconst 1, 1) := by decide +kernel
theorem d_M_answers_39 : decode (mC m_M_answers) 39 = .ok (.goto (4), 3) := by decide +kernel
theorem d_M_answers_42 : decode (mC m_M_answers) 42 = .ok (.iconst 0, 1) := by decide +kernel
theorem d_M_answers_43 : decode (mC m_M_answers) 43 = .ok (.istore 6, 2) := by decide +kernel
theorem d_M_answers_45 : decode (mC m_M_answers) 45 = .ok (.iload_n 3, 1) := by decide +kernel
theorem d_M_answers_46 : decode (mC m_M_answers) 46 = .ok (.ifCond .eq (31), 3) := by decide +kernel
theorem d_M_answers_49 : decode (mC m_M_answers) 49 = .ok (.iload 6, 2) := by decide +kernel
theorem d_M_answers_51 : decode (mC m_M_answers) 51 = .ok (.ifCond .ne (26), 3) := by decide +kernel
theorem d_M_answers_54 : decode (mC m_M_answers) 54 = .ok (.aload_n 0, 1) := by decide +kernel
theorem d_M_answers_55 : decode (mC m_M_answers) 55 = .ok (.getfield 13, 3) := by decide +kernel
theorem d_M_answers_58 : decode (mC m_M_answers) 58 = .ok (.iload 5, 2) := by decide +kernel
theorem d_M_answers_60 : decode (mC m_M_answers) 60 = .ok (.iconst 0, 1) := by decide +kernel
theorem d_M_answers_61 : decode (mC m_M_answers) 61 = .ok (.iastore, 1) := by decide +kernel
theorem d_M_answers_62 : decode (mC m_M_answers) 62 = .ok (.iload_n 2, 1) := by decide +kernel
theorem d_M_answers_63 : decode (mC m_M_answers) 63 = .ok (.iconst 2, 1) := by decide +kernel
theorem d_M_answers_64 : decode (mC m_M_answers) 64 = .ok (.if_icmp .ne (11), 3) := by decide +kernel
theorem d_M_answers_67 : decode (mC m_M_answers) 67 = .ok (.aload_n 0, 1) := by decide +kernel
theorem d_M_answers_68 : decode (mC m_M_answers) 68 = .ok (.getfield 16, 3) := by decide +kernel
theorem d_M_answers_71 : decode (mC m_M_answers) 71 = .ok (.iload_n 1, 1) := by decide +kernel
theorem d_M_answers_72 : decode (mC m_M_answers) 72 = .ok (.iload 4, 2) := by decide +kernel
theorem d_M_answers_74 : decode (mC m_M_answers) 74 = .ok (.iastore, 1) := by decide +kernel
theorem d_M_answers_75 : decode (mC m_M_answers) 75 = .ok (.iconst 1, 1) := by decide +kernel
theorem d_M_answers_76 : decode (mC m_M_answers) 76 = .ok (.ireturn, 1) := by decide +kernel
theorem d_M_answers_77 : decode (mC m_M_answers) 77 = .ok (.aload_n 0, 1) := by decide +kernel
theorem d_M_answers_78 : decode (mC m_M_answers) 78 = .ok (.getfield 13, 3) := by decide +kernel
theorem d_M_answers_81 : decode (mC m_M_answers) 81 = .ok (.iload 5, 2) := by decide +kernel
theorem d_M_answers_83 : decode (mC m_M_answers) 83 = .ok (.dup2, 1) := by decide +kernel
theorem d_M_answers_84 : decode (mC m_M_answers) 84 = .ok (.iaload, 1) := by decide +kernel
theorem d_M_answers_85 : decode (mC m_M_answers) 85 = .ok (.iload_n 3, 1) := by decide +kernel
theorem d_M_answers_86 : decode (mC m_M_answers) 86 = .ok (.ifCond .eq (7), 3) := by decide +kernel
theorem d_M_answers_89 : decode (mC m_M_answers) 89 = .ok (.iconst 0, 1) := by decide +kernel
theorem d_M_answers_90 : decode (mC m_M_answers) 90 = .ok (.goto (4), 3) := by decide +kernel
theorem d_M_answers_93 : decode (mC m_M_answers) 93 = .ok (.iconst 1, 1) := by decide +kernel
theorem d_M_answers_94 : decode (mC m_M_answers) 94 = .ok (.iadd, 1) := by decide +kernel
theorem d_M_answers_95 : decode (mC m_M_answers) 95 = .ok (.iastore, 1) := by decide +kernel
theorem d_M_answers_96 : decode (mC m_M_answers) 96 = .ok (.iload 6, 2) := by decide +kernel
theorem d_M_answers_98 : decode (mC m_M_answers) 98 = .ok (.ifCond .ne (14), 3) := by decide +kernel
theorem d_M_answers_101 : decode (mC m_M_answers) 101 = .ok (.aload_n 0, 1) := by decide +kernel
theorem d_M_answers_102 : decode (mC m_M_answers) 102 = .ok (.getfield 13, 3) := by decide +kernel
theorem d_M_answers_105 : decode (mC m_M_answers) 105 = .ok (.iload 5, 2) := by decide +kernel
theorem d_M_answers_107 : decode (mC m_M_answers) 107 = .ok (.iaload, 1) := by decide +kernel
theorem d_M_answers_108 : decode (mC m_M_answers) 108 = .ok (.iconst 5, 1) := by decide +kernel
theorem d_M_answers_109 : decode (mC m_M_answers) 109 = .ok (.if_icmp .ne (9), 3) := by decide +kernel
theorem d_M_answers_112 : decode (mC m_M_answers) 112 = .ok (.aload_n 0, 1) := by decide +kernel
theorem d_M_answers_113 : decode (mC m_M_answers) 113 = .ok (.iload_n 1, 1) := by decide +kernel
theorem d_M_answers_114 : decode (mC m_M_answers) 114 = .ok (.iload_n 2, 1) := by decide +kernel
theorem d_M_answers_115 : decode (mC m_M_answers) 115 = .ok (.invokevirtual 294, 3) := by decide +kernel
theorem d_M_answers_118 : decode (mC m_M_answers) 118 = .ok (.aload_n 0, 1) := by decide +kernel
theorem d_M_answers_119 : decode (mC m_M_answers) 119 = .ok (.getfield 19, 3) := by decide +kernel
theorem d_M_answers_122 : decode (mC m_M_answers) 122 = .ok (.iconst 3, 1) := by decide +kernel
theorem d_M_answers_123 : decode (mC m_M_answers) 123 = .ok (.iload_n 1, 1) := by decide +kernel
theorem d_M_answers_124 : decode (mC m_M_answers) 124 = .ok (.imul, 1) := by decide +kernel
theorem d_M_answers_125 : decode (mC m_M_answers) 125 = .ok (.aload_n 0, 1) := by decide +kernel
theorem d_M_answers_126 : decode (mC m_M_answers) 126 = .ok (.getfield 19, 3) := by decide +kernel
theorem d_M_answers_129 : decode (mC m_M_answers) 129 = .ok (.iconst 3, 1) := by decide +kernel
theorem d_M_answers_130 : decode (mC m_M_answers) 130 = .ok (.iload_n 1, 1) := by decide +kernel
theorem d_M_answers_131 : decode (mC m_M_answers) 131 = .ok (.imul, 1) := by decide +kernel
theorem d_M_answers_132 : decode (mC m_M_answers) 132 = .ok (.iconst 1, 1) := by decide +kernel
theorem d_M_answers_133 : decode (mC m_M_answers) 133 = .ok (.iadd, 1) := by decide +kernel
theorem d_M_answers_134 : decode (mC m_M_answers) 134 = .ok (.iaload, 1) := by decide +kernel
theorem d_M_answers_135 : decode (mC m_M_answers) 135 = .ok (.iastore, 1) := by decide +kernel
theorem d_M_answers_136 : decode (mC m_M_answers) 136 = .ok (.aload_n 0, 1) := by decide +kernel
theorem d_M_answers_137 : decode (mC m_M_answers) 137 = .ok (.getfield 19, 3) := by decide +kernel
theorem d_M_answers_140 : decode (mC m_M_answers) 140 = .ok (.iconst 3, 1) := by decide +kernel
theorem d_M_answers_141 : decode (mC m_M_answers) 141 = .ok (.iload_n 1, 1) := by decide +kernel
theorem d_M_answers_142 : decode (mC m_M_answers) 142 = .ok (.imul, 1) := by decide +kernel
theorem d_M_answers_143 : decode (mC m_M_answers) 143 = .ok (.iconst 1, 1) := by decide +kernel
theorem d_M_answers_144 : decode (mC m_M_answers) 144 = .ok (.iadd, 1) := by decide +kernel
theorem d_M_answers_145 : decode (mC m_M_answers) 145 = .ok (.aload_n 0, 1) := by decide +kernel
theorem d_M_answers_146 : decode (mC m_M_answers) 146 = .ok (.getfield 19, 3) := by decide +kernel
theorem d_M_answers_149 : decode (mC m_M_answers) 149 = .ok (.iconst 3, 1) := by decide +kernel
theorem d_M_answers_150 : decode (mC m_M_answers) 150 = .ok (.iload_n 1, 1) := by decide +kernel
theorem d_M_answers_151 : decode (mC m_M_answers) 151 = .ok (.imul, 1) := by decide +kernel
theorem d_M_answers_152 : decode (mC m_M_answers) 152 = .ok (.iconst 2, 1) := by decide +kernel
theorem d_M_answers_153 : decode (mC m_M_answers) 153 = .ok (.iadd, 1) := by decide +kernel
theorem d_M_answers_154 : decode (mC m_M_answers) 154 = .ok (.iaload, 1) := by decide +kernel
theorem d_M_answers_155 : decode (mC m_M_answers) 155 = .ok (.iastore, 1) := by decide +kernel
theorem d_M_answers_156 : decode (mC m_M_answers) 156 = .ok (.aload_n 0, 1) := by decide +kernel
theorem d_M_answers_157 : decode (mC m_M_answers) 157 = .ok (.getfield 19, 3) := by decide +kernel
theorem d_M_answers_160 : decode (mC m_M_answers) 160 = .ok (.iconst 3, 1) := by decide +kernel
theorem d_M_answers_161 : decode (mC m_M_answers) 161 = .ok (.iload_n 1, 1) := by decide +kernel
theorem d_M_answers_162 : decode (mC m_M_answers) 162 = .ok (.imul, 1) := by decide +kernel
theorem d_M_answers_163 : decode (mC m_M_answers) 163 = .ok (.iconst 2, 1) := by decide +kernel
theorem d_M_answers_164 : decode (mC m_M_answers) 164 = .ok (.iadd, 1) := by decide +kernel
theorem d_M_answers_165 : decode (mC m_M_answers) 165 = .ok (.aload_n 0, 1) := by decide +kernel
theorem d_M_answers_166 : decode (mC m_M_answers) 166 = .ok (.getfield 247, 3) := by decide +kernel
theorem d_M_answers_169 : decode (mC m_M_answers) 169 = .ok (.iastore, 1) := by decide +kernel
theorem d_M_answers_170 : decode (mC m_M_answers) 170 = .ok (.iconst 0, 1) := by decide +kernel
theorem d_M_answers_171 : decode (mC m_M_answers) 171 = .ok (.ireturn, 1) := by decide +kernel
theorem d_M_answer_0 : decode (mC m_M_answer) 0 = .ok (.aload_n 0, 1) := by decide +kernel
theorem d_M_answer_1 : decode (mC m_M_answer) 1 = .ok (.iload_n 1, 1) := by decide +kernel
theorem d_M_answer_2 : decode (mC m_M_answer) 2 = .ok (.invokevirtual 341, 3) := by decide +kernel
theorem d_M_answer_5 : decode (mC m_M_answer) 5 = .ok (.istore 4, 2) := by decide +kernel
theorem d_M_answer_7 : decode (mC m_M_answer) 7 = .ok (.aload_n 0, 1) := by decide +kernel
theorem d_M_answer_8 : decode (mC m_M_answer) 8 = .ok (.iload 4, 2) := by decide +kernel
theorem d_M_answer_10 : decode (mC m_M_answer) 10 = .ok (.iload_n 3, 1) := by decide +kernel
theorem d_M_answer_11 : decode (mC m_M_answer) 11 = .ok (.iconst 0, 1) := by decide +kernel
theorem d_M_answer_12 : decode (mC m_M_answer) 12 = .ok (.sipush (9999), 3) := by decide +kernel
theorem d_M_answer_15 : decode (mC m_M_answer) 15 = .ok (.invokestatic 228, 3) := by decide +kernel
theorem d_M_answer_18 : decode (mC m_M_answer) 18 = .ok (.iload 4, 2) := by decide +kernel
theorem d_M_answer_20 : decode (mC m_M_answer) 20 = .ok (.ifCond .eq (16), 3) := by decide +kernel
theorem d_M_answer_23 : decode (mC m_M_answer) 23 = .ok (.aload_n 0, 1) := by decide +kernel
theorem d_M_answer_24 : decode (mC m_M_answer) 24 = .ok (.getfield 77, 3) := by decide +kernel
theorem d_M_answer_27 : decode (mC m_M_answer) 27 = .ok (.iload_n 1, 1) := by decide +kernel
theorem d_M_answer_28 : decode (mC m_M_answer) 28 = .ok (.iaload, 1) := by decide +kernel
theorem d_M_answer_29 : decode (mC m_M_answer) 29 = .ok (.ifCond .ne (7), 3) := by decide +kernel
theorem d_M_answer_32 : decode (mC m_M_answer) 32 = .ok (.iconst 1, 1) := by decide +kernel
theorem d_M_answer_33 : decode (mC m_M_answer) 33 = .ok (.goto (4), 3) := by decide +kernel
theorem d_M_answer_36 : decode (mC m_M_answer) 36 = .ok (.iconst 0, 1) := by decide +kernel
theorem d_M_answer_37 : decode (mC m_M_answer) 37 = .ok (.invokevirtual 344, 3) := by decide +kernel
theorem d_M_answer_40 : decode (mC m_M_answer) 40 = .ok (.ifCond .ne (5), 3) := by decide +kernel
theorem d_M_answer_43 : decode (mC m_M_answer) 43 = .ok (.iconst 0, 1) := by decide +kernel
theorem d_M_answer_44 : decode (mC m_M_answer) 44 = .ok (.ireturn, 1) := by decide +kernel
theorem d_M_answer_45 : decode (mC m_M_answer) 45 = .ok (.bipush (12), 2) := by decide +kernel
theorem d_M_answer_47 : decode (mC m_M_answer) 47 = .ok (.aload_n 0, 1) := by decide +kernel
theorem d_M_answer_48 : decode (mC m_M_answer) 48 = .ok (.getfield 71, 3) := by decide +kernel
theorem d_M_answer_51 : decode (mC m_M_answer) 51 = .ok (.iload_n 1, 1) := by decide +kernel
theorem d_M_answer_52 : decode (mC m_M_answer) 52 = .ok (.iaload, 1) := by decide +kernel
theorem d_M_answer_53 : decode (mC m_M_answer) 53 = .ok (.imul, 1) := by decide +kernel
theorem d_M_answer_54 : decode (mC m_M_answer) 54 = .ok (.aload_n 0, 1) := by decide +kernel
theorem d_M_answer_55 : decode (mC m_M_answer) 55 = .ok (.getfield 74, 3) := by decide +kernel
theorem d_M_answer_58 : decode (mC m_M_answer) 58 = .ok (.iload_n 1, 1) := by decide +kernel
theorem d_M_answer_59 : decode (mC m_M_answer) 59 = .ok (.iaload, 1) := by decide +kernel
theorem d_M_answer_60 : decode (mC m_M_answer) 60 = .ok (.iadd, 1) := by decide +kernel
theorem d_M_answer_61 : decode (mC m_M_answer) 61 = .ok (.istore 5, 2) := by decide +kernel
theorem d_M_answer_63 : decode (mC m_M_answer) 63 = .ok (.aload_n 0, 1) := by decide +kernel
theorem d_M_answer_64 : decode (mC m_M_answer) 64 = .ok (.getfield 83, 3) := by decide +kernel
theorem d_M_answer_67 : decode (mC m_M_answer) 67 = .ok (.iload_n 1, 1) := by decide +kernel
theorem d_M_answer_68 : decode (mC m_M_answer) 68 = .ok (.dup2, 1) := by decide +kernel
theorem d_M_answer_69 : decode (mC m_M_answer) 69 = .ok (.iaload, 1) := by decide +kernel
theorem d_M_answer_70 : decode (mC m_M_answer) 70 = .ok (.iconst 1, 1) := by decide +kernel
theorem d_M_answer_71 : decode (mC m_M_answer) 71 = .ok (.iadd, 1) := by decide +kernel
theorem d_M_answer_72 : decode (mC m_M_answer) 72 = .ok (.iastore, 1) := by decide +kernel
theorem d_M_answer_73 : decode (mC m_M_answer) 73 = .ok (.aload_n 0, 1) := by decide +kernel
theorem d_M_answer_74 : decode (mC m_M_answer) 74 = .ok (.aload_n 0, 1) := by decide +kernel
theorem d_M_answer_75 : decode (mC m_M_answer) 75 = .ok (.getfield 62, 3) := by decide +kernel
theorem d_M_answer_78 : decode (mC m_M_answer) 78 = .ok (.iload_n 1, 1) := by decide +kernel
theorem d_M_answer_79 : decode (mC m_M_answer) 79 = .ok (.iaload, 1) := by decide +kernel
theorem d_M_answer_80 : decode (mC m_M_answer) 80 = .ok (.aload_n 0, 1) := by decide +kernel
theorem d_M_answer_81 : decode (mC m_M_answer) 81 = .ok (.getfield 41, 3) := by decide +kernel
theorem d_M_answer_84 : decode (mC m_M_answer) 84 = .ok (.iload 5, 2) := by decide +kernel
theorem d_M_answer_86 : decode (mC m_M_answer) 86 = .ok (.iaload, 1) := by decide +kernel
theorem d_M_answer_87 : decode (mC m_M_answer) 87 = .ok (.iload_n 2, 1) := by decide +kernel
theorem d_M_answer_88 : decode (mC m_M_answer) 88 = .ok (.iload_n 3, 1) := by decide +kernel
theorem d_M_answer_89 : decode (mC m_M_answer) 89 = .ok (.invokevirtual 348, 3) := by decide +kernel
theorem d_M_answer_92 : decode (mC m_M_answer) 92 = .ok (.ifCond .eq (38), 3) := by decide +kernel
theorem d_M_answer_95 : decode (mC m_M_answer) 95 = .ok (.aload_n 0, 1) := by decide +kernel
theorem d_M_answer_96 : decode (mC m_M_answer) 96 = .ok (.getfield 89, 3) := by decide +kernel
theorem d_M_answer_99 : decode (mC m_M_answer) 99 = .ok (.iconst 3, 1) := by decide +kernel
theorem d_M_answer_100 : decode (mC m_M_answer) 100 = .ok (.iload_n 1, 1) := by decide +kernel
theorem d_M_answer_101 : decode (mC m_M_answer) 101 = .ok (.imul, 1) := by decide +kernel
theorem d_M_answer_102 : decode (mC m_M_answer) 102 = .ok (.aload_n 0, 1) := by decide +kernel
theorem d_M_answer_103 : decode (mC m_M_answer) 103 = .ok (.getfield 41, 3) := by decide +kernel
theorem d_M_answer_106 : decode (mC m_M_answer) 106 = .ok (.iload 5, 2) := by decide +kernel
theorem d_M_answer_108 : decode (mC m_M_answer) 108 = .ok (.iaload, 1) := by decide +kernel
theorem d_M_answer_109 : decode (mC m_M_answer) 109 = .ok (.iadd, 1) := by decide +kernel
theorem d_M_answer_110 : decode (mC m_M_answer) 110 = .ok (.aload_n 0, 1) := by decide +kernel
theorem d_M_answer_111 : decode (mC m_M_answer) 111 = .ok (.getfield 247, 3) := by decide +kernel
theorem d_M_answer_114 : decode (mC m_M_answer) 114 = .ok (.iastore, 1) := by decide +kernel
theorem d_M_answer_115 : decode (mC m_M_answer) 115 = .ok (.aload_n 0, 1) := by decide +kernel
theorem d_M_answer_116 : decode (mC m_M_answer) 116 = .ok (.iload_n 1, 1) := by decide +kernel
theorem d_M_answer_117 : decode (mC m_M_answer) 117 = .ok (.aload_n 0, 1) := by decide +kernel
theorem d_M_answer_118 : decode (mC m_M_answer) 118 = .ok (.getfield 47, 3) := by decide +kernel
theorem d_M_answer_121 : decode (mC m_M_answer) 121 = .ok (.iload 5, 2) := by decide +kernel
theorem d_M_answer_123 : decode (mC m_M_answer) 123 = .ok (.iaload, 1) := by decide +kernel
theorem d_M_answer_124 : decode (mC m_M_answer) 124 = .ok (.invokevirtual 338, 3) := by decide +kernel
theorem d_M_answer_127 : decode (mC m_M_answer) 127 = .ok (.goto (41), 3) := by decide +kernel
theorem d_M_answer_130 : decode (mC m_M_answer) 130 = .ok (.aload_n 0, 1) := by decide +kernel
theorem d_M_answer_131 : decode (mC m_M_answer) 131 = .ok (.getfield 80, 3) := by decide +kernel
theorem d_M_answer_134 : decode (mC m_M_answer) 134 = .ok (.iload_n 1, 1) := by decide +kernel
theorem d_M_answer_135 : decode (mC m_M_answer) 135 = .ok (.dup2, 1) := by decide +kernel
theorem d_M_answer_136 : decode (mC m_M_answer) 136 = .ok (.iaload, 1) := by decide +kernel
theorem d_M_answer_137 : decode (mC m_M_answer) 137 = .ok (.iconst 1, 1) := by decide +kernel
theorem d_M_answer_138 : decode (mC m_M_answer) 138 = .ok (.iadd, 1) := by decide +kernel
theorem d_M_answer_139 : decode (mC m_M_answer) 139 = .ok (.iastore, 1) := by decide +kernel
theorem d_M_answer_140 : decode (mC m_M_answer) 140 = .ok (.aload_n 0, 1) := by decide +kernel
theorem d_M_answer_141 : decode (mC m_M_answer) 141 = .ok (.getfield 80, 3) := by decide +kernel
theorem d_M_answer_144 : decode (mC m_M_answer) 144 = .ok (.iload_n 1, 1) := by decide +kernel
theorem d_M_answer_145 : decode (mC m_M_answer) 145 = .ok (.iaload, 1) := by decide +kernel
theorem d_M_answer_146 : decode (mC m_M_answer) 146 = .ok (.aload_n 0, 1) := by decide +kernel
theorem d_M_answer_147 : decode (mC m_M_answer) 147 = .ok (.getfield 44, 3) := by decide +kernel
theorem d_M_answer_150 : decode (mC m_M_answer) 150 = .ok (.iload 5, 2) := by decide +kernel
theorem d_M_answer_152 : decode (mC m_M_answer) 152 = .ok (.iaload, 1) := by decide +kernel
theorem d_M_answer_153 : decode (mC m_M_answer) 153 = .ok (.if_icmp .ne (15), 3) := by decide +kernel
theorem d_M_answer_156 : decode (mC m_M_answer) 156 = .ok (.aload_n 0, 1) := by decide +kernel
theorem d_M_answer_157 : decode (mC m_M_answer) 157 = .ok (.iload_n 1, 1) := by decide +kernel
theorem d_M_answer_158 : decode (mC m_M_answer) 158 = .ok (.aload_n 0, 1) := by decide +kernel
theorem d_M_answer_159 : decode (mC m_M_answer) 159 = .ok (.getfield 50, 3) := by decide +kernel
theorem d_M_answer_162 : decode (mC m_M_answer) 162 = .ok (.iload 5, 2) := by decide +kernel
theorem d_M_answer_164 : decode (mC m_M_answer) 164 = .ok (.iaload, 1) := by decide +kernel
theorem d_M_answer_165 : decode (mC m_M_answer) 165 = .ok (.invokevirtual 338, 3) := by decide +kernel
theorem d_M_answer_168 : decode (mC m_M_answer) 168 = .ok (.aload_n 0, 1) := by decide +kernel
theorem d_M_answer_169 : decode (mC m_M_answer) 169 = .ok (.getfield 77, 3) := by decide +kernel
theorem d_M_answer_172 : decode (mC m_M_answer) 172 = .ok (.iload_n 1, 1) := by decide +kernel
theorem d_M_answer_173 : decode (mC m_M_answer) 173 = .ok (.iaload, 1) := by decide +kernel
theorem d_M_answer_174 : decode (mC m_M_answer) 174 = .ok (.ifCond .ne (21), 3) := by decide +kernel
theorem d_M_answer_177 : decode (mC m_M_answer) 177 = .ok (.aload_n 0, 1) := by decide +kernel
theorem d_M_answer_178 : decode (mC m_M_answer) 178 = .ok (.getfield 83, 3) := by decide +kernel
theorem d_M_answer_181 : decode (mC m_M_answer) 181 = .ok (.iload_n 1, 1) := by decide +kernel
theorem d_M_answer_182 : decode (mC m_M_answer) 182 = .ok (.iaload, 1) := by decide +kernel
theorem d_M_answer_183 : decode (mC m_M_answer) 183 = .ok (.bipush (12), 2) := by decide +kernel
theorem d_M_answer_185 : decode (mC m_M_answer) 185 = .ok (.if_icmp .ne (10), 3) := by decide +kernel
theorem d_M_answer_188 : decode (mC m_M_answer) 188 = .ok (.aload_n 0, 1) := by decide +kernel
theorem d_M_answer_189 : decode (mC m_M_answer) 189 = .ok (.getfield 77, 3) := by decide +kernel
theorem d_M_answer_192 : decode (mC m_M_answer) 192 = .ok (.iload_n 1, 1) := by decide +kernel
theorem d_M_answer_193 : decode (mC m_M_answer) 193 = .ok (.iconst 2, 1) := by decide +kernel
theorem d_M_answer_194 : decode (mC m_M_answer) 194 = .ok (.iastore, 1) := by decide +kernel
theorem d_M_answer_195 : decode (mC m_M_answer) 195 = .ok (.aload_n 0, 1) := by decide +kernel
theorem d_M_answer_196 : decode (mC m_M_answer) 196 = .ok (.getfield 77, 3) := by decide +kernel
theorem d_M_answer_199 : decode (mC m_M_answer) 199 = .ok (.iload_n 1, 1) := by decide +kernel
theorem d_M_answer_200 : decode (mC m_M_answer) 200 = .ok (.iaload, 1) := by decide +kernel
theorem d_M_answer_201 : decode (mC m_M_answer) 201 = .ok (.ireturn, 1) := by decide +kernel
theorem d_K_state_0 : decode (mC m_K_state) 0 = .ok (.aload_n 0, 1) := by decide +kernel
theorem d_K_state_1 : decode (mC m_K_state) 1 = .ok (.iload_n 1, 1) := by decide +kernel
theorem d_K_state_2 : decode (mC m_K_state) 2 = .ok (.invokevirtual 175, 3) := by decide +kernel
theorem d_K_state_5 : decode (mC m_K_state) 5 = .ok (.getfield 179, 3) := by decide +kernel
theorem d_K_state_8 : decode (mC m_K_state) 8 = .ok (.ireturn, 1) := by decide +kernel
theorem d_W_state_0 : decode (mC m_W_state) 0 = .ok (.aload_n 2, 1) := by decide +kernel
theorem d_W_state_1 : decode (mC m_W_state) 1 = .ok (.iconst 0, 1) := by decide +kernel
theorem d_W_state_2 : decode (mC m_W_state) 2 = .ok (.aload_n 0, 1) := by decide +kernel
theorem d_W_state_3 : decode (mC m_W_state) 3 = .ok (.iload_n 1, 1) := by decide +kernel
theorem d_W_state_4 : decode (mC m_W_state) 4 = .ok (.invokevirtual 49, 3) := by decide +kernel
theorem d_W_state_7 : decode (mC m_W_state) 7 = .ok (.i2l, 1) := by decide +kernel
theorem d_W_state_8 : decode (mC m_W_state) 8 = .ok (.lastore, 1) := by decide +kernel
theorem d_W_state_9 : decode (mC m_W_state) 9 = .ok (.goto (6), 3) := by decide +kernel
theorem d_W_state_12 : decode (mC m_W_state) 12 = .ok (.astore_n 3, 1) := by decide +kernel
theorem d_W_state_13 : decode (mC m_W_state) 13 = .ok (.iconst 1, 1) := by decide +kernel
theorem d_W_state_14 : decode (mC m_W_state) 14 = .ok (.ireturn, 1) := by decide +kernel
theorem d_W_state_15 : decode (mC m_W_state) 15 = .ok (.iconst 0, 1) := by decide +kernel
theorem d_W_state_16 : decode (mC m_W_state) 16 = .ok (.ireturn, 1) := by decide +kernel
theorem d_M_state_0 : decode (mC m_M_state) 0 = .ok (.aload_n 0, 1) := by decide +kernel
theorem d_M_state_1 : decode (mC m_M_state) 1 = .ok (.aload_n 0, 1) := by decide +kernel
theorem d_M_state_2 : decode (mC m_M_state) 2 = .ok (.iload_n 1, 1) := by decide +kernel
theorem d_M_state_3 : decode (mC m_M_state) 3 = .ok (.invokevirtual 341, 3) := by decide +kernel
theorem d_M_state_6 : decode (mC m_M_state) 6 = .ok (.invokevirtual 251, 3) := by decide +kernel
theorem d_M_state_9 : decode (mC m_M_state) 9 = .ok (.ifCond .eq (12), 3) := by decide +kernel
theorem d_M_state_12 : decode (mC m_M_state) 12 = .ok (.aload_n 0, 1) := by decide +kernel
theorem d_M_state_13 : decode (mC m_M_state) 13 = .ok (.getfield 77, 3) := by decide +kernel
theorem d_M_state_16 : decode (mC m_M_state) 16 = .ok (.iload_n 1, 1) := by decide +kernel
theorem d_M_state_17 : decode (mC m_M_state) 17 = .ok (.iaload, 1) := by decide +kernel
theorem d_M_state_18 : decode (mC m_M_state) 18 = .ok (.goto (4), 3) := by decide +kernel
theorem d_M_state_21 : decode (mC m_M_state) 21 = .ok (.iconst 0, 1) := by decide +kernel
theorem d_M_state_22 : decode (mC m_M_state) 22 = .ok (.ireturn, 1) := by decide +kernel
theorem d_K_asked_0 : decode (mC m_K_asked) 0 = .ok (.aload_n 0, 1) := by decide +kernel
theorem d_K_asked_1 : decode (mC m_K_asked) 1 = .ok (.iload_n 1, 1) := by decide +kernel
theorem d_K_asked_2 : decode (mC m_K_asked) 2 = .ok (.invokevirtual 175, 3) := by decide +kernel
theorem d_K_asked_5 : decode (mC m_K_asked) 5 = .ok (.astore_n 2, 1) := by decide +kernel
theorem d_K_asked_6 : decode (mC m_K_asked) 6 = .ok (.aload_n 2, 1) := by decide +kernel
theorem d_K_asked_7 : decode (mC m_K_asked) 7 = .ok (.getfield 179, 3) := by decide +kernel
theorem d_K_asked_10 : decode (mC m_K_asked) 10 = .ok (.ifCond .ne (17), 3) := by decide +kernel
theorem d_K_asked_13 : decode (mC m_K_asked) 13 = .ok (.aload_n 2, 1) := by decide +kernel
theorem d_K_asked_14 : decode (mC m_K_asked) 14 = .ok (.getfield 186, 3) := by decide +kernel
theorem d_K_asked_17 : decode (mC m_K_asked) 17 = .ok (.aload_n 2, 1) := by decide +kernel
theorem d_K_asked_18 : decode (mC m_K_asked) 18 = .ok (.getfield 189, 3) := by decide +kernel
theorem d_K_asked_21 : decode (mC m_K_asked) 21 = .ok (.invokevirtual 192, 3) := by decide +kernel
theorem d_K_asked_24 : decode (mC m_K_asked) 24 = .ok (.goto (4), 3) := by decide +kernel
theorem d_K_asked_27 : decode (mC m_K_asked) 27 = .ok (.iconst (-1), 1) := by decide +kernel
theorem d_K_asked_28 : decode (mC m_K_asked) 28 = .ok (.ireturn, 1) := by decide +kernel
theorem d_W_asked_0 : decode (mC m_W_asked) 0 = .ok (.aload_n 2, 1) := by decide +kernel
theorem d_W_asked_1 : decode (mC m_W_asked) 1 = .ok (.iconst 0, 1) := by decide +kernel
theorem d_W_asked_2 : decode (mC m_W_asked) 2 = .ok (.aload_n 0, 1) := by decide +kernel
theorem d_W_asked_3 : decode (mC m_W_asked) 3 = .ok (.iload_n 1, 1) := by decide +kernel
theorem d_W_asked_4 : decode (mC m_W_asked) 4 = .ok (.invokevirtual 52, 3) := by decide +kernel
theorem d_W_asked_7 : decode (mC m_W_asked) 7 = .ok (.i2l, 1) := by decide +kernel
theorem d_W_asked_8 : decode (mC m_W_asked) 8 = .ok (.lastore, 1) := by decide +kernel
theorem d_W_asked_9 : decode (mC m_W_asked) 9 = .ok (.goto (6), 3) := by decide +kernel
theorem d_W_asked_12 : decode (mC m_W_asked) 12 = .ok (.astore_n 3, 1) := by decide +kernel
theorem d_W_asked_13 : decode (mC m_W_asked) 13 = .ok (.iconst 1, 1) := by decide +kernel
theorem d_W_asked_14 : decode (mC m_W_asked) 14 = .ok (.ireturn, 1) := by decide +kernel
theorem d_W_asked_15 : decode (mC m_W_asked) 15 = .ok (.iconst 0, 1) := by decide +kernel
theorem d_W_asked_16 : decode (mC m_W_asked) 16 = .ok (.ireturn, 1) := by decide +kernel
theorem d_M_asked_0 : decode (mC m_M_asked) 0 = .ok (.aload_n 0, 1) := by decide +kernel
theorem d_M_asked_1 : decode (mC m_M_asked) 1 = .ok (.aload_n 0, 1) := by decide +kernel
theorem d_M_asked_2 : decode (mC m_M_asked) 2 = .ok (.iload_n 1, 1) := by decide +kernel
theorem d_M_asked_3 : decode (mC m_M_asked) 3 = .ok (.invokevirtual 341, 3) := by decide +kernel
theorem d_M_asked_6 : decode (mC m_M_asked) 6 = .ok (.invokevirtual 251, 3) := by decide +kernel
theorem d_M_asked_9 : decode (mC m_M_asked) 9 = .ok (.ifCond .ne (5), 3) := by decide +kernel
theorem d_M_asked_12 : decode (mC m_M_asked) 12 = .ok (.iconst 0, 1) := by decide +kernel
theorem d_M_asked_13 : decode (mC m_M_asked) 13 = .ok (.ireturn, 1) := by decide +kernel
theorem d_M_asked_14 : decode (mC m_M_asked) 14 = .ok (.aload_n 0, 1) := by decide +kernel
theorem d_M_asked_15 : decode (mC m_M_asked) 15 = .ok (.getfield 77, 3) := by decide +kernel
theorem d_M_asked_18 : decode (mC m_M_asked) 18 = .ok (.iload_n 1, 1) := by decide +kernel
theorem d_M_asked_19 : decode (mC m_M_asked) 19 = .ok (.iaload, 1) := by decide +kernel
theorem d_M_asked_20 : decode (mC m_M_asked) 20 = .ok (.ifCond .ne (27), 3) := by decide +kernel
theorem d_M_asked_23 : decode (mC m_M_asked) 23 = .ok (.aload_n 0, 1) := by decide +kernel
theorem d_M_asked_24 : decode (mC m_M_asked) 24 = .ok (.getfield 41, 3) := by decide +kernel
theorem d_M_asked_27 : decode (mC m_M_asked) 27 = .ok (.bipush (12), 2) := by decide +kernel
theorem d_M_asked_29 : decode (mC m_M_asked) 29 = .ok (.aload_n 0, 1) := by decide +kernel
theorem d_M_asked_30 : decode (mC m_M_asked) 30 = .ok (.getfield 71, 3) := by decide +kernel
theorem d_M_asked_33 : decode (mC m_M_asked) 33 = .ok (.iload_n 1, 1) := by decide +kernel
theorem d_M_asked_34 : decode (mC m_M_asked) 34 = .ok (.iaload, 1) := by decide +kernel
theorem d_M_asked_35 : decode (mC m_M_asked) 35 = .ok (.imul, 1) := by decide +kernel
theorem d_M_asked_36 : decode (mC m_M_asked) 36 = .ok (.aload_n 0, 1) := by decide +kernel
theorem d_M_asked_37 : decode (mC m_M_asked) 37 = .ok (.getfield 74, 3) := by decide +kernel
theorem d_M_asked_40 : decode (mC m_M_asked) 40 = .ok (.iload_n 1, 1) := by decide +kernel
theorem d_M_asked_41 : decode (mC m_M_asked) 41 = .ok (.iaload, 1) := by decide +kernel
theorem d_M_asked_42 : decode (mC m_M_asked) 42 = .ok (.iadd, 1) := by decide +kernel
theorem d_M_asked_43 : decode (mC m_M_asked) 43 = .ok (.iaload, 1) := by decide +kernel
theorem d_M_asked_44 : decode (mC m_M_asked) 44 = .ok (.goto (4), 3) := by decide +kernel
theorem d_M_asked_47 : decode (mC m_M_asked) 47 = .ok (.iconst (-1), 1) := by decide +kernel
theorem d_M_asked_48 : decode (mC m_M_asked) 48 = .ok (.ireturn, 1) := by decide +kernel
theorem d_K_sessionOf_0 : decode (mC m_K_sessionOf) 0 = .ok (.aload_n 0, 1) := by decide +kernel
theorem d_K_sessionOf_1 : decode (mC m_K_sessionOf) 1 = .ok (.iload_n 1, 1) := by decide +kernel
theorem d_K_sessionOf_2 : decode (mC m_K_sessionOf) 2 = .ok (.invokevirtual 175, 3) := by decide +kernel
theorem d_K_sessionOf_5 : decode (mC m_K_sessionOf) 5 = .ok (.getfield 195, 3) := by decide +kernel
theorem d_K_sessionOf_8 : decode (mC m_K_sessionOf) 8 = .ok (.ireturn, 1) := by decide +kernel
theorem d_W_sessionOf_0 : decode (mC m_W_sessionOf) 0 = .ok (.aload_n 2, 1) := by decide +kernel
theorem d_W_sessionOf_1 : decode (mC m_W_sessionOf) 1 = .ok (.iconst 0, 1) := by decide +kernel
theorem d_W_sessionOf_2 : decode (mC m_W_sessionOf) 2 = .ok (.aload_n 0, 1) := by decide +kernel
theorem d_W_sessionOf_3 : decode (mC m_W_sessionOf) 3 = .ok (.iload_n 1, 1) := by decide +kernel
theorem d_W_sessionOf_4 : decode (mC m_W_sessionOf) 4 = .ok (.invokevirtual 55, 3) := by decide +kernel
theorem d_W_sessionOf_7 : decode (mC m_W_sessionOf) 7 = .ok (.i2l, 1) := by decide +kernel
theorem d_W_sessionOf_8 : decode (mC m_W_sessionOf) 8 = .ok (.lastore, 1) := by decide +kernel
theorem d_W_sessionOf_9 : decode (mC m_W_sessionOf) 9 = .ok (.goto (6), 3) := by decide +kernel
theorem d_W_sessionOf_12 : decode (mC m_W_sessionOf) 12 = .ok (.astore_n 3, 1) := by decide +kernel
theorem d_W_sessionOf_13 : decode (mC m_W_sessionOf) 13 = .ok (.iconst 1, 1) := by decide +kernel
theorem d_W_sessionOf_14 : decode (mC m_W_sessionOf) 14 = .ok (.ireturn, 1) := by decide +kernel
theorem d_W_sessionOf_15 : decode (mC m_W_sessionOf) 15 = .ok (.iconst 0, 1) := by decide +kernel
theorem d_W_sessionOf_16 : decode (mC m_W_sessionOf) 16 = .ok (.ireturn, 1) := by decide +kernel
theorem d_M_sessionOf_0 : decode (mC m_M_sessionOf) 0 = .ok (.aload_n 0, 1) := by decide +kernel
theorem d_M_sessionOf_1 : decode (mC m_M_sessionOf) 1 = .ok (.aload_n 0, 1) := by decide +kernel
theorem d_M_sessionOf_2 : decode (mC m_M_sessionOf) 2 = .ok (.iload_n 1, 1) := by decide +kernel
theorem d_M_sessionOf_3 : decode (mC m_M_sessionOf) 3 = .ok (.invokevirtual 341, 3) := by decide +kernel
theorem d_M_sessionOf_6 : decode (mC m_M_sessionOf) 6 = .ok (.invokevirtual 251, 3) := by decide +kernel
theorem d_M_sessionOf_9 : decode (mC m_M_sessionOf) 9 = .ok (.ifCond .eq (12), 3) := by decide +kernel
theorem d_M_sessionOf_12 : decode (mC m_M_sessionOf) 12 = .ok (.aload_n 0, 1) := by decide +kernel
theorem d_M_sessionOf_13 : decode (mC m_M_sessionOf) 13 = .ok (.getfield 86, 3) := by decide +kernel
theorem d_M_sessionOf_16 : decode (mC m_M_sessionOf) 16 = .ok (.iload_n 1, 1) := by decide +kernel
theorem d_M_sessionOf_17 : decode (mC m_M_sessionOf) 17 = .ok (.iaload, 1) := by decide +kernel
theorem d_M_sessionOf_18 : decode (mC m_M_sessionOf) 18 = .ok (.goto (4), 3) := by decide +kernel
theorem d_M_sessionOf_21 : decode (mC m_M_sessionOf) 21 = .ok (.iconst 0, 1) := by decide +kernel
theorem d_M_sessionOf_22 : decode (mC m_M_sessionOf) 22 = .ok (.ireturn, 1) := by decide +kernel
theorem d_K_risk_0 : decode (mC m_K_risk) 0 = .ok (.aload_n 0, 1) := by decide +kernel
theorem d_K_risk_1 : decode (mC m_K_risk) 1 = .ok (.aload_n 0, 1) := by decide +kernel
theorem d_K_risk_2 : decode (mC m_K_risk) 2 = .ok (.iload_n 1, 1) := by decide +kernel
theorem d_K_risk_3 : decode (mC m_K_risk) 3 = .ok (.invokevirtual 175, 3) := by decide +kernel
theorem d_K_risk_6 : decode (mC m_K_risk) 6 = .ok (.iconst 0, 1) := by decide +kernel
theorem d_K_risk_7 : decode (mC m_K_risk) 7 = .ok (.invokevirtual 198, 3) := by decide +kernel
theorem d_K_risk_10 : decode (mC m_K_risk) 10 = .ok (.ireturn, 1) := by decide +kernel
theorem d_W_risk_0 : decode (mC m_W_risk) 0 = .ok (.aload_n 2, 1) := by decide +kernel
theorem d_W_risk_1 : decode (mC m_W_risk) 1 = .ok (.iconst 0, 1) := by decide +kernel
theorem d_W_risk_2 : decode (mC m_W_risk) 2 = .ok (.aload_n 0, 1) := by decide +kernel
theorem d_W_risk_3 : decode (mC m_W_risk) 3 = .ok (.iload_n 1, 1) := by decide +kernel
theorem d_W_risk_4 : decode (mC m_W_risk) 4 = .ok (.invokevirtual 58, 3) := by decide +kernel
theorem d_W_risk_7 : decode (mC m_W_risk) 7 = .ok (.i2l, 1) := by decide +kernel
theorem d_W_risk_8 : decode (mC m_W_risk) 8 = .ok (.lastore, 1) := by decide +kernel
theorem d_W_risk_9 : decode (mC m_W_risk) 9 = .ok (.goto (6), 3) := by decide +kernel
theorem d_W_risk_12 : decode (mC m_W_risk) 12 = .ok (.astore_n 3, 1) := by decide +kernel
theorem d_W_risk_13 : decode (mC m_W_risk) 13 = .ok (.iconst 1, 1) := by decide +kernel
theorem d_W_risk_14 : decode (mC m_W_risk) 14 = .ok (.ireturn, 1) := by decide +kernel
theorem d_W_risk_15 : decode (mC m_W_risk) 15 = .ok (.iconst 0, 1) := by decide +kernel
theorem d_W_risk_16 : decode (mC m_W_risk) 16 = .ok (.ireturn, 1) := by decide +kernel
theorem d_M_risk_0 : decode (mC m_M_risk) 0 = .ok (.aload_n 0, 1) := by decide +kernel
theorem d_M_risk_1 : decode (mC m_M_risk) 1 = .ok (.aload_n 0, 1) := by decide +kernel
theorem d_M_risk_2 : decode (mC m_M_risk) 2 = .ok (.iload_n 1, 1) := by decide +kernel
theorem d_M_risk_3 : decode (mC m_M_risk) 3 = .ok (.invokevirtual 341, 3) := by decide +kernel
theorem d_M_risk_6 : decode (mC m_M_risk) 6 = .ok (.invokevirtual 251, 3) := by decide +kernel
theorem d_M_risk_9 : decode (mC m_M_risk) 9 = .ok (.ifCond .eq (12), 3) := by decide +kernel
theorem d_M_risk_12 : decode (mC m_M_risk) 12 = .ok (.aload_n 0, 1) := by decide +kernel
theorem d_M_risk_13 : decode (mC m_M_risk) 13 = .ok (.iload_n 1, 1) := by decide +kernel
theorem d_M_risk_14 : decode (mC m_M_risk) 14 = .ok (.iconst 0, 1) := by decide +kernel
theorem d_M_risk_15 : decode (mC m_M_risk) 15 = .ok (.invokevirtual 322, 3) := by decide +kernel
theorem d_M_risk_18 : decode (mC m_M_risk) 18 = .ok (.goto (4), 3) := by decide +kernel
theorem d_M_risk_21 : decode (mC m_M_risk) 21 = .ok (.iconst 0, 1) := by decide +kernel
theorem d_M_risk_22 : decode (mC m_M_risk) 22 = .ok (.ireturn, 1) := by decide +kernel
theorem d_K_trialRisk_0 : decode (mC m_K_trialRisk) 0 = .ok (.aload_n 0, 1) := by decide +kernel
theorem d_K_trialRisk_1 : decode (mC m_K_trialRisk) 1 = .ok (.aload_n 0, 1) := by decide +kernel
theorem d_K_trialRisk_2 : decode (mC m_K_trialRisk) 2 = .ok (.iload_n 1, 1) := by decide +kernel
theorem d_K_trialRisk_3 : decode (mC m_K_trialRisk) 3 = .ok (.invokevirtual 175, 3) := by decide +kernel
theorem d_K_trialRisk_6 : decode (mC m_K_trialRisk) 6 = .ok (.iconst 1, 1) := by decide +kernel
theorem d_K_trialRisk_7 : decode (mC m_K_trialRisk) 7 = .ok (.invokevirtual 198, 3) := by decide +kernel
theorem d_K_trialRisk_10 : decode (mC m_K_trialRisk) 10 = .ok (.ireturn, 1) := by decide +kernel
theorem d_W_trialRisk_0 : decode (mC m_W_trialRisk) 0 = .ok (.aload_n 2, 1) := by decide +kernel
theorem d_W_trialRisk_1 : decode (mC m_W_trialRisk) 1 = .ok (.iconst 0, 1) := by decide +kernel
theorem d_W_trialRisk_2 : decode (mC m_W_trialRisk) 2 = .ok (.aload_n 0, 1) := by decide +kernel
theorem d_W_trialRisk_3 : decode (mC m_W_trialRisk) 3 = .ok (.iload_n 1, 1) := by decide +kernel
theorem d_W_trialRisk_4 : decode (mC m_W_trialRisk) 4 = .ok (.invokevirtual 61, 3) := by decide +kernel
theorem d_W_trialRisk_7 : decode (mC m_W_trialRisk) 7 = .ok (.i2l, 1) := by decide +kernel
theorem d_W_trialRisk_8 : decode (mC m_W_trialRisk) 8 = .ok (.lastore, 1) := by decide +kernel
theorem d_W_trialRisk_9 : decode (mC m_W_trialRisk) 9 = .ok (.goto (6), 3) := by decide +kernel
theorem d_W_trialRisk_12 : decode (mC m_W_trialRisk) 12 = .ok (.astore_n 3, 1) := by decide +kernel
theorem d_W_trialRisk_13 : decode (mC m_W_trialRisk) 13 = .ok (.iconst 1, 1) := by decide +kernel
theorem d_W_trialRisk_14 : decode (mC m_W_trialRisk) 14 = .ok (.ireturn, 1) := by decide +kernel
theorem d_W_trialRisk_15 : decode (mC m_W_trialRisk) 15 = .ok (.iconst 0, 1) := by decide +kernel
theorem d_W_trialRisk_16 : decode (mC m_W_trialRisk) 16 = .ok (.ireturn, 1) := by decide +kernel
theorem d_M_trialRisk_0 : decode (mC m_M_trialRisk) 0 = .ok (.aload_n 0, 1) := by decide +kernel
theorem d_M_trialRisk_1 : decode (mC m_M_trialRisk) 1 = .ok (.aload_n 0, 1) := by decide +kernel
theorem d_M_trialRisk_2 : decode (mC m_M_trialRisk) 2 = .ok (.iload_n 1, 1) := by decide +kernel
theorem d_M_trialRisk_3 : decode (mC m_M_trialRisk) 3 = .ok (.invokevirtual 341, 3) := by decide +kernel
theorem d_M_trialRisk_6 : decode (mC m_M_trialRisk) 6 = .ok (.invokevirtual 251, 3) := by decide +kernel
theorem d_M_trialRisk_9 : decode (mC m_M_trialRisk) 9 = .ok (.ifCond .eq (12), 3) := by decide +kernel
theorem d_M_trialRisk_12 : decode (mC m_M_trialRisk) 12 = .ok (.aload_n 0, 1) := by decide +kernel
theorem d_M_trialRisk_13 : decode (mC m_M_trialRisk) 13 = .ok (.iload_n 1, 1) := by decide +kernel
theorem d_M_trialRisk_14 : decode (mC m_M_trialRisk) 14 = .ok (.iconst 1, 1) := by decide +kernel
theorem d_M_trialRisk_15 : decode (mC m_M_trialRisk) 15 = .ok (.invokevirtual 322, 3) := by decide +kernel
theorem d_M_trialRisk_18 : decode (mC m_M_trialRisk) 18 = .ok (.goto (4), 3) := by decide +kernel
theorem d_M_trialRisk_21 : decode (mC m_M_trialRisk) 21 = .ok (.iconst 0, 1) := by decide +kernel
theorem d_M_trialRisk_22 : decode (mC m_M_trialRisk) 22 = .ok (.ireturn, 1) := by decide +kernel
theorem d_K_sessions_0 : decode (mC m_K_sessions) 0 = .ok (.aload_n 0, 1) := by decide +kernel
theorem d_K_sessions_1 : decode (mC m_K_sessions) 1 = .ok (.getfield 46, 3) := by decide +kernel
theorem d_K_sessions_4 : decode (mC m_K_sessions) 4 = .ok (.invokevirtual 134, 3) := by decide +kernel
theorem d_K_sessions_7 : decode (mC m_K_sessions) 7 = .ok (.ireturn, 1) := by decide +kernel
theorem d_M_sessions_0 : decode (mC m_M_sessions) 0 = .ok (.aload_n 0, 1) := by decide +kernel
theorem d_M_sessions_1 : decode (mC m_M_sessions) 1 = .ok (.iconst 0, 1) := by decide +kernel
theorem d_M_sessions_2 : decode (mC m_M_sessions) 2 = .ok (.putfield 225, 3) := by decide +kernel
theorem d_M_sessions_5 : decode (mC m_M_sessions) 5 = .ok (.aload_n 0, 1) := by decide +kernel
theorem d_M_sessions_6 : decode (mC m_M_sessions) 6 = .ok (.getfield 235, 3) := by decide +kernel
theorem d_M_sessions_9 : decode (mC m_M_sessions) 9 = .ok (.ireturn, 1) := by decide +kernel
theorem d_K_findSession_0 : decode (mC m_K_findSession) 0 = .ok (.iload_n 1, 1) := by decide +kernel
theorem d_K_findSession_1 : decode (mC m_K_findSession) 1 = .ok (.aload_n 0, 1) := by decide +kernel
theorem d_K_findSession_2 : decode (mC m_K_findSession) 2 = .ok (.getfield 46, 3) := by decide +kernel
theorem d_K_findSession_5 : decode (mC m_K_findSession) 5 = .ok (.invokevirtual 134, 3) := by decide +kernel
theorem d_K_findSession_8 : decode (mC m_K_findSession) 8 = .ok (.invokestatic 148, 3) := by decide +kernel
theorem d_K_findSession_11 : decode (mC m_K_findSession) 11 = .ok (.aload_n 0, 1) := by decide +kernel
theorem d_K_findSession_12 : decode (mC m_K_findSession) 12 = .ok (.getfield 46, 3) := by decide +kernel
theorem d_K_findSession_15 : decode (mC m_K_findSession) 15 = .ok (.iload_n 1, 1) := by decide +kernel
theorem d_K_findSession_16 : decode (mC m_K_findSession) 16 = .ok (.invokevirtual 152, 3) := by decide +kernel
theorem d_K_findSession_19 : decode (mC m_K_findSession) 19 = .ok (.checkcast 207, 3) := by decide +kernel
theorem d_K_findSession_22 : decode (mC m_K_findSession) 22 = .ok (.areturn, 1) := by decide +kernel
theorem d_K_isLive_0 : decode (mC m_K_isLive) 0 = .ok (.aload_n 0, 1) := by decide +kernel
theorem d_K_isLive_1 : decode (mC m_K_isLive) 1 = .ok (.iload_n 1, 1) := by decide +kernel
theorem d_K_isLive_2 : decode (mC m_K_isLive) 2 = .ok (.invokevirtual 202, 3) := by decide +kernel
theorem d_K_isLive_5 : decode (mC m_K_isLive) 5 = .ok (.getfield 206, 3) := by decide +kernel
theorem d_K_isLive_8 : decode (mC m_K_isLive) 8 = .ok (.ireturn, 1) := by decide +kernel
theorem d_W_isLive_0 : decode (mC m_W_isLive) 0 = .ok (.aload_n 2, 1) := by decide +kernel
theorem d_W_isLive_1 : decode (mC m_W_isLive) 1 = .ok (.iconst 0, 1) := by decide +kernel
theorem d_W_isLive_2 : decode (mC m_W_isLive) 2 = .ok (.aload_n 0, 1) := by decide +kernel
theorem d_W_isLive_3 : decode (mC m_W_isLive) 3 = .ok (.iload_n 1, 1) := by decide +kernel
theorem d_W_isLive_4 : decode (mC m_W_isLive) 4 = .ok (.invokevirtual 64, 3) := by decide +kernel
theorem d_W_isLive_7 : decode (mC m_W_isLive) 7 = .ok (.ifCond .eq (7), 3) := by decide +kernel
theorem d_W_isLive_10 : decode (mC m_W_isLive) 10 = .ok (.lconst 1, 1) := by decide +kernel
theorem d_W_isLive_11 : decode (mC m_W_isLive) 11 = .ok (.goto (4), 3) := by decide +kernel
theorem d_W_isLive_14 : decode (mC m_W_isLive) 14 = .ok (.lconst 0, 1) := by decide +kernel
theorem d_W_isLive_15 : decode (mC m_W_isLive) 15 = .ok (.lastore, 1) := by decide +kernel
theorem d_W_isLive_16 : decode (mC m_W_isLive) 16 = .ok (.goto (6), 3) := by decide +kernel
theorem d_W_isLive_19 : decode (mC m_W_isLive) 19 = .ok (.astore_n 3, 1) := by decide +kernel
theorem d_W_isLive_20 : decode (mC m_W_isLive) 20 = .ok (.iconst 1, 1) := by decide +kernel
theorem d_W_isLive_21 : decode (mC m_W_isLive) 21 = .ok (.ireturn, 1) := by decide +kernel
theorem d_W_isLive_22 : decode (mC m_W_isLive) 22 = .ok (.iconst 0, 1) := by decide +kernel
theorem d_W_isLive_23 : decode (mC m_W_isLive) 23 = .ok (.ireturn, 1) := by decide +kernel
theorem d_M_isSession_0 : decode (mC m_M_isSession) 0 = .ok (.iload_n 1, 1) := by decide +kernel
theorem d_M_isSession_1 : decode (mC m_M_isSession) 1 = .ok (.iconst 0, 1) := by decide +kernel
theorem d_M_isSession_2 : decode (mC m_M_isSession) 2 = .ok (.aload_n 0, 1) := by decide +kernel
theorem d_M_isSession_3 : decode (mC m_M_isSession) 3 = .ok (.getfield 235, 3) := by decide +kernel
theorem d_M_isSession_6 : decode (mC m_M_isSession) 6 = .ok (.iconst 1, 1) := by decide +kernel
theorem d_M_isSession_7 : decode (mC m_M_isSession) 7 = .ok (.isub, 1) := by decide +kernel
theorem d_M_isSession_8 : decode (mC m_M_isSession) 8 = .ok (.invokestatic 228, 3) := by decide +kernel
theorem d_M_isSession_11 : decode (mC m_M_isSession) 11 = .ok (.ireturn, 1) := by decide +kernel
theorem d_M_isLive_0 : decode (mC m_M_isLive) 0 = .ok (.aload_n 0, 1) := by decide +kernel
theorem d_M_isLive_1 : decode (mC m_M_isLive) 1 = .ok (.aload_n 0, 1) := by decide +kernel
theorem d_M_isLive_2 : decode (mC m_M_isLive) 2 = .ok (.iload_n 1, 1) := by decide +kernel
theorem d_M_isLive_3 : decode (mC m_M_isLive) 3 = .ok (.invokevirtual 352, 3) := by decide +kernel
theorem d_M_isLive_6 : decode (mC m_M_isLive) 6 = .ok (.invokevirtual 251, 3) := by decide +kernel
theorem d_M_isLive_9 : decode (mC m_M_isLive) 9 = .ok (.ifCond .eq (16), 3) := by decide +kernel
theorem d_M_isLive_12 : decode (mC m_M_isLive) 12 = .ok (.aload_n 0, 1) := by decide +kernel
theorem d_M_isLive_13 : decode (mC m_M_isLive) 13 = .ok (.getfield 104, 3) := by decide +kernel
theorem d_M_isLive_16 : decode (mC m_M_isLive) 16 = .ok (.iload_n 1, 1) := by decide +kernel
theorem d_M_isLive_17 : decode (mC m_M_isLive) 17 = .ok (.baload, 1) := by decide +kernel
theorem d_M_isLive_18 : decode (mC m_M_isLive) 18 = .ok (.ifCond .eq (7), 3) := by decide +kernel
theorem d_M_isLive_21 : decode (mC m_M_isLive) 21 = .ok (.iconst 1, 1) := by decide +kernel
theorem d_M_isLive_22 : decode (mC m_M_isLive) 22 = .ok (.goto (4), 3) := by decide +kernel
theorem d_M_isLive_25 : decode (mC m_M_isLive) 25 = .ok (.iconst 0, 1) := by decide +kernel
theorem d_M_isLive_26 : decode (mC m_M_isLive) 26 = .ok (.ireturn, 1) := by decide +kernel
theorem d_Audit_entryAt_0 : decode (mC m_Audit_entryAt) 0 = .ok (.iload_n 1, 1) := by decide +kernel
theorem d_Audit_entryAt_1 : decode (mC m_Audit_entryAt) 1 = .ok (.ifCond .lt (19), 3) := by decide +kernel
theorem d_Audit_entryAt_4 : decode (mC m_Audit_entryAt) 4 = .ok (.iload_n 1, 1) := by decide +kernel
theorem d_Audit_entryAt_5 : decode (mC m_Audit_entryAt) 5 = .ok (.sipush (1024), 3) := by decide +kernel
theorem d_Audit_entryAt_8 : decode (mC m_Audit_entryAt) 8 = .ok (.if_icmp .ge (12), 3) := by decide +kernel
theorem d_Audit_entryAt_11 : decode (mC m_Audit_entryAt) 11 = .ok (.aload_n 0, 1) := by decide +kernel
theorem d_Audit_entryAt_12 : decode (mC m_Audit_entryAt) 12 = .ok (.getfield 9, 3) := by decide +kernel
theorem d_Audit_entryAt_15 : decode (mC m_Audit_entryAt) 15 = .ok (.iload_n 1, 1) := by decide +kernel
theorem d_Audit_entryAt_16 : decode (mC m_Audit_entryAt) 16 = .ok (.iaload, 1) := by decide +kernel
theorem d_Audit_entryAt_17 : decode (mC m_Audit_entryAt) 17 = .ok (.goto (4), 3) := by decide +kernel
theorem d_Audit_entryAt_20 : decode (mC m_Audit_entryAt) 20 = .ok (.iconst 0, 1) := by decide +kernel
theorem d_Audit_entryAt_21 : decode (mC m_Audit_entryAt) 21 = .ok (.ireturn, 1) := by decide +kernel
theorem d_Audit_has_0 : decode (mC m_Audit_has) 0 = .ok (.iconst 0, 1) := by decide +kernel
theorem d_Audit_has_1 : decode (mC m_Audit_has) 1 = .ok (.istore_n 3, 1) := by decide +kernel
theorem d_Audit_has_2 : decode (mC m_Audit_has) 2 = .ok (.iload_n 3, 1) := by decide +kernel
theorem d_Audit_has_3 : decode (mC m_Audit_has) 3 = .ok (.aload_n 0, 1) := by decide +kernel
theorem d_Audit_has_4 : decode (mC m_Audit_has) 4 = .ok (.getfield 20, 3) := by decide +kernel
theorem d_Audit_has_7 : decode (mC m_Audit_has) 7 = .ok (.if_icmp .ge (26), 3) := by decide +kernel
theorem d_Audit_has_10 : decode (mC m_Audit_has) 10 = .ok (.aload_n 0, 1) := by decide +kernel
theorem d_Audit_has_11 : decode (mC m_Audit_has) 11 = .ok (.iload_n 3, 1) := by decide +kernel
theorem d_Audit_has_12 : decode (mC m_Audit_has) 12 = .ok (.invokevirtual 27, 3) := by decide +kernel
theorem d_Audit_has_15 : decode (mC m_Audit_has) 15 = .ok (.sipush (1000), 3) := by decide +kernel
theorem d_Audit_has_18 : decode (mC m_Audit_has) 18 = .ok (.iload_n 1, 1) := by decide +kernel
theorem d_Audit_has_19 : decode (mC m_Audit_has) 19 = .ok (.imul, 1) := by decide +kernel
theorem d_Audit_has_20 : decode (mC m_Audit_has) 20 = .ok (.iload_n 2, 1) := by decide +kernel
theorem d_Audit_has_21 : decode (mC m_Audit_has) 21 = .ok (.iadd, 1) := by decide +kernel
theorem d_Audit_has_22 : decode (mC m_Audit_has) 22 = .ok (.if_icmp .ne (5), 3) := by decide +kernel
theorem d_Audit_has_25 : decode (mC m_Audit_has) 25 = .ok (.iconst 1, 1) := by decide +kernel
theorem d_Audit_has_26 : decode (mC m_Audit_has) 26 = .ok (.ireturn, 1) := by decide +kernel
theorem d_Audit_has_27 : decode (mC m_Audit_has) 27 = .ok (.iinc 3 (1), 3) := by decide +kernel
theorem d_Audit_has_30 : decode (mC m_Audit_has) 30 = .ok (.goto (-28), 3) := by decide +kernel
theorem d_Audit_has_33 : decode (mC m_Audit_has) 33 = .ok (.iconst 0, 1) := by decide +kernel
theorem d_Audit_has_34 : decode (mC m_Audit_has) 34 = .ok (.ireturn, 1) := by decide +kernel
theorem d_K_isLiveByAudit_0 : decode (mC m_K_isLiveByAudit) 0 = .ok (.iload_n 1, 1) := by decide +kernel
theorem d_K_isLiveByAudit_1 : decode (mC m_K_isLiveByAudit) 1 = .ok (.aload_n 0, 1) := by decide +kernel
theorem d_K_isLiveByAudit_2 : decode (mC m_K_isLiveByAudit) 2 = .ok (.getfield 46, 3) := by decide +kernel
theorem d_K_isLiveByAudit_5 : decode (mC m_K_isLiveByAudit) 5 = .ok (.invokevirtual 134, 3) := by decide +kernel
theorem d_K_isLiveByAudit_8 : decode (mC m_K_isLiveByAudit) 8 = .ok (.invokestatic 148, 3) := by decide +kernel
theorem d_K_isLiveByAudit_11 : decode (mC m_K_isLiveByAudit) 11 = .ok (.aload_n 0, 1) := by decide +kernel
theorem d_K_isLiveByAudit_12 : decode (mC m_K_isLiveByAudit) 12 = .ok (.getfield 10, 3) := by decide +kernel
theorem d_K_isLiveByAudit_15 : decode (mC m_K_isLiveByAudit) 15 = .ok (.iconst 0, 1) := by decide +kernel
theorem d_K_isLiveByAudit_16 : decode (mC m_K_isLiveByAudit) 16 = .ok (.iload_n 1, 1) := by decide +kernel
theorem d_K_isLiveByAudit_17 : decode (mC m_K_isLiveByAudit) 17 = .ok (.invokevirtual 211, 3) := by decide +kernel
theorem d_K_isLiveByAudit_20 : decode (mC m_K_isLiveByAudit) 20 = .ok (.ifCond .eq (19), 3) := by decide +kernel
theorem d_K_isLiveByAudit_23 : decode (mC m_K_isLiveByAudit) 23 = .ok (.aload_n 0, 1) := by decide +kernel
theorem d_K_isLiveByAudit_24 : decode (mC m_K_isLiveByAudit) 24 = .ok (.getfield 10, 3) := by decide +kernel
theorem d_K_isLiveByAudit_27 : decode (mC m_K_isLiveByAudit) 27 = .ok (.iconst 1, 1) := by decide +kernel
theorem d_K_isLiveByAudit_28 : decode (mC m_K_isLiveByAudit) 28 = .ok (.iload_n 1, 1) := by decide +kernel
theorem d_K_isLiveByAudit_29 : decode (mC m_K_isLiveByAudit) 29 = .ok (.invokevirtual 211, 3) := by decide +kernel
theorem d_K_isLiveByAudit_32 : decode (mC m_K_isLiveByAudit) 32 = .ok (.ifCond .ne (7), 3) := by decide +kernel
theorem d_K_isLiveByAudit_35 : decode (mC m_K_isLiveByAudit) 35 = .ok (.iconst 1, 1) := by decide +kernel
theorem d_K_isLiveByAudit_36 : decode (mC m_K_isLiveByAudit) 36 = .ok (.goto (4), 3) := by decide +kernel
theorem d_K_isLiveByAudit_39 : decode (mC m_K_isLiveByAudit) 39 = .ok (.iconst 0, 1) := by decide +kernel
theorem d_K_isLiveByAudit_40 : decode (mC m_K_isLiveByAudit) 40 = .ok (.ireturn, 1) := by decide +kernel
theorem d_W_isLiveByAudit_0 : decode (mC m_W_isLiveByAudit) 0 = .ok (.aload_n 2, 1) := by decide +kernel
theorem d_W_isLiveByAudit_1 : decode (mC m_W_isLiveByAudit) 1 = .ok (.iconst 0, 1) := by decide +kernel
theorem d_W_isLiveByAudit_2 : decode (mC m_W_isLiveByAudit) 2 = .ok (.aload_n 0, 1) := by decide +kernel
theorem d_W_isLiveByAudit_3 : decode (mC m_W_isLiveByAudit) 3 = .ok (.iload_n 1, 1) := by decide +kernel
theorem d_W_isLiveByAudit_4 : decode (mC m_W_isLiveByAudit) 4 = .ok (.invokevirtual 68, 3) := by decide +kernel
theorem d_W_isLiveByAudit_7 : decode (mC m_W_isLiveByAudit) 7 = .ok (.ifCond .eq (7), 3) := by decide +kernel
theorem d_W_isLiveByAudit_10 : decode (mC m_W_isLiveByAudit) 10 = .ok (.lconst 1, 1) := by decide +kernel
theorem d_W_isLiveByAudit_11 : decode (mC m_W_isLiveByAudit) 11 = .ok (.goto (4), 3) := by decide +kernel
theorem d_W_isLiveByAudit_14 : decode (mC m_W_isLiveByAudit) 14 = .ok (.lconst 0, 1) := by decide +kernel
theorem d_W_isLiveByAudit_15 : decode (mC m_W_isLiveByAudit) 15 = .ok (.lastore, 1) := by decide +kernel
theorem d_W_isLiveByAudit_16 : decode (mC m_W_isLiveByAudit) 16 = .ok (.goto (6), 3) := by decide +kernel
theorem d_W_isLiveByAudit_19 : decode (mC m_W_isLiveByAudit) 19 = .ok (.astore_n 3, 1) := by decide +kernel
theorem d_W_isLiveByAudit_20 : decode (mC m_W_isLiveByAudit) 20 = .ok (.iconst 1, 1) := by decide +kernel
theorem d_W_isLiveByAudit_21 : decode (mC m_W_isLiveByAudit) 21 = .ok (.ireturn, 1) := by decide +kernel
theorem d_W_isLiveByAudit_22 : decode (mC m_W_isLiveByAudit) 22 = .ok (.iconst 0, 1) := by decide +kernel
theorem d_W_isLiveByAudit_23 : decode (mC m_W_isLiveByAudit) 23 = .ok (.ireturn, 1) := by decide +kernel
theorem d_M_isLiveByAudit_0 : decode (mC m_M_isLiveByAudit) 0 = .ok (.aload_n 0, 1) := by decide +kernel
theorem d_M_isLiveByAudit_1 : decode (mC m_M_isLiveByAudit) 1 = .ok (.aload_n 0, 1) := by decide +kernel
theorem d_M_isLiveByAudit_2 : decode (mC m_M_isLiveByAudit) 2 = .ok (.iload_n 1, 1) := by decide +kernel
theorem d_M_isLiveByAudit_3 : decode (mC m_M_isLiveByAudit) 3 = .ok (.invokevirtual 352, 3) := by decide +kernel
theorem d_M_isLiveByAudit_6 : decode (mC m_M_isLiveByAudit) 6 = .ok (.invokevirtual 251, 3) := by decide +kernel
theorem d_M_isLiveByAudit_9 : decode (mC m_M_isLiveByAudit) 9 = .ok (.ifCond .ne (5), 3) := by decide +kernel
theorem d_M_isLiveByAudit_12 : decode (mC m_M_isLiveByAudit) 12 = .ok (.iconst 0, 1) := by decide +kernel
theorem d_M_isLiveByAudit_13 : decode (mC m_M_isLiveByAudit) 13 = .ok (.ireturn, 1) := by decide +kernel
theorem d_M_isLiveByAudit_14 : decode (mC m_M_isLiveByAudit) 14 = .ok (.iconst 0, 1) := by decide +kernel
theorem d_M_isLiveByAudit_15 : decode (mC m_M_isLiveByAudit) 15 = .ok (.istore_n 2, 1) := by decide +kernel
theorem d_M_isLiveByAudit_16 : decode (mC m_M_isLiveByAudit) 16 = .ok (.iconst 0, 1) := by decide +kernel
theorem d_M_isLiveByAudit_17 : decode (mC m_M_isLiveByAudit) 17 = .ok (.istore_n 3, 1) := by decide +kernel
theorem d_M_isLiveByAudit_18 : decode (mC m_M_isLiveByAudit) 18 = .ok (.iload_n 3, 1) := by decide +kernel
theorem d_M_isLiveByAudit_19 : decode (mC m_M_isLiveByAudit) 19 = .ok (.aload_n 0, 1) := by decide +kernel
theorem d_M_isLiveByAudit_20 : decode (mC m_M_isLiveByAudit) 20 = .ok (.getfield 244, 3) := by decide +kernel
theorem d_M_isLiveByAudit_23 : decode (mC m_M_isLiveByAudit) 23 = .ok (.if_icmp .ge (48), 3) := by decide +kernel
theorem d_M_isLiveByAudit_26 : decode (mC m_M_isLiveByAudit) 26 = .ok (.aload_n 0, 1) := by decide +kernel
theorem d_M_isLiveByAudit_27 : decode (mC m_M_isLiveByAudit) 27 = .ok (.getfield 216, 3) := by decide +kernel
theorem d_M_isLiveByAudit_30 : decode (mC m_M_isLiveByAudit) 30 = .ok (.iload_n 3, 1) := by decide +kernel
theorem d_M_isLiveByAudit_31 : decode (mC m_M_isLiveByAudit) 31 = .ok (.iaload, 1) := by decide +kernel
theorem d_M_isLiveByAudit_32 : decode (mC m_M_isLiveByAudit) 32 = .ok (.iload_n 1, 1) := by decide +kernel
theorem d_M_isLiveByAudit_33 : decode (mC m_M_isLiveByAudit) 33 = .ok (.if_icmp .ne (30), 3) := by decide +kernel
theorem d_M_isLiveByAudit_36 : decode (mC m_M_isLiveByAudit) 36 = .ok (.aload_n 0, 1) := by decide +kernel
theorem d_M_isLiveByAudit_37 : decode (mC m_M_isLiveByAudit) 37 = .ok (.getfield 213, 3) := by decide +kernel
theorem d_M_isLiveByAudit_40 : decode (mC m_M_isLiveByAudit) 40 = .ok (.iload_n 3, 1) := by decide +kernel
theorem d_M_isLiveByAudit_41 : decode (mC m_M_isLiveByAudit) 41 = .ok (.iaload, 1) := by decide +kernel
theorem d_M_isLiveByAudit_42 : decode (mC m_M_isLiveByAudit) 42 = .ok (.iconst 2, 1) := by decide +kernel
theorem d_M_isLiveByAudit_43 : decode (mC m_M_isLiveByAudit) 43 = .ok (.if_icmp .ge (20), 3) := by decide +kernel
theorem d_M_isLiveByAudit_46 : decode (mC m_M_isLiveByAudit) 46 = .ok (.aload_n 0, 1) := by decide +kernel
theorem d_M_isLiveByAudit_47 : decode (mC m_M_isLiveByAudit) 47 = .ok (.getfield 213, 3) := by decide +kernel
theorem d_M_isLiveByAudit_50 : decode (mC m_M_isLiveByAudit) 50 = .ok (.iload_n 3, 1) := by decide +kernel
theorem d_M_isLiveByAudit_51 : decode (mC m_M_isLiveByAudit) 51 = .ok (.iaload, 1) := by decide +kernel
theorem d_M_isLiveByAudit_52 : decode (mC m_M_isLiveByAudit) 52 = .ok (.ifCond .ne (7), 3) := by decide +kernel
theorem d_M_isLiveByAudit_55 : decode (mC m_M_isLiveByAudit) 55 = .ok (.iconst 1, 1) := by decide +kernel
theorem d_M_isLiveByAudit_56 : decode (mC m_M_isLiveByAudit) 56 = .ok (.goto (8), 3) := by decide +kernel
theorem d_M_isLiveByAudit_59 : decode (mC m_M_isLiveByAudit) 59 = .ok (.iconst 0, 1) := by decide +kernel
theorem d_M_isLiveByAudit_60 : decode (mC m_M_isLiveByAudit) 60 = .ok (.goto (4), 3) := by decide +kernel
theorem d_M_isLiveByAudit_63 : decode (mC m_M_isLiveByAudit) 63 = .ok (.iload_n 2, 1) := by decide +kernel
theorem d_M_isLiveByAudit_64 : decode (mC m_M_isLiveByAudit) 64 = .ok (.istore_n 2, 1) := by decide +kernel
theorem d_M_isLiveByAudit_65 : decode (mC m_M_isLiveByAudit) 65 = .ok (.iinc 3 (1), 3) := by decide +kernel
theorem d_M_isLiveByAudit_68 : decode (mC m_M_isLiveByAudit) 68 = .ok (.goto (-50), 3) := by decide +kernel
theorem d_M_isLiveByAudit_71 : decode (mC m_M_isLiveByAudit) 71 = .ok (.iload_n 2, 1) := by decide +kernel
theorem d_M_isLiveByAudit_72 : decode (mC m_M_isLiveByAudit) 72 = .ok (.ireturn, 1) := by decide +kernel
theorem d_Session_levelAt_0 : decode (mC m_Session_levelAt) 0 = .ok (.aload_n 0, 1) := by decide +kernel
theorem d_Session_levelAt_1 : decode (mC m_Session_levelAt) 1 = .ok (.getfield 27, 3) := by decide +kernel
theorem d_Session_levelAt_4 : decode (mC m_Session_levelAt) 4 = .ok (.iload_n 1, 1) := by decide +kernel
theorem d_Session_levelAt_5 : decode (mC m_Session_levelAt) 5 = .ok (.bipush (120), 2) := by decide +kernel
theorem d_Session_levelAt_7 : decode (mC m_Session_levelAt) 7 = .ok (.isub, 1) := by decide +kernel
theorem d_Session_levelAt_8 : decode (mC m_Session_levelAt) 8 = .ok (.invokevirtual 37, 3) := by decide +kernel
theorem d_Session_levelAt_11 : decode (mC m_Session_levelAt) 11 = .ok (.ireturn, 1) := by decide +kernel
theorem d_K_level_0 : decode (mC m_K_level) 0 = .ok (.aload_n 0, 1) := by decide +kernel
theorem d_K_level_1 : decode (mC m_K_level) 1 = .ok (.iload_n 1, 1) := by decide +kernel
theorem d_K_level_2 : decode (mC m_K_level) 2 = .ok (.invokevirtual 202, 3) := by decide +kernel
theorem d_K_level_5 : decode (mC m_K_level) 5 = .ok (.aload_n 0, 1) := by decide +kernel
theorem d_K_level_6 : decode (mC m_K_level) 6 = .ok (.getfield 92, 3) := by decide +kernel
theorem d_K_level_9 : decode (mC m_K_level) 9 = .ok (.invokevirtual 215, 3) := by decide +kernel
theorem d_K_level_12 : decode (mC m_K_level) 12 = .ok (.ireturn, 1) := by decide +kernel
theorem d_W_level_0 : decode (mC m_W_level) 0 = .ok (.aload_n 2, 1) := by decide +kernel
theorem d_W_level_1 : decode (mC m_W_level) 1 = .ok (.iconst 0, 1) := by decide +kernel
theorem d_W_level_2 : decode (mC m_W_level) 2 = .ok (.aload_n 0, 1) := by decide +kernel
theorem d_W_level_3 : decode (mC m_W_level) 3 = .ok (.iload_n 1, 1) := by decide +kernel
theorem d_W_level_4 : decode (mC m_W_level) 4 = .ok (.invokevirtual 71, 3) := by decide +kernel
theorem d_W_level_7 : decode (mC m_W_level) 7 = .ok (.i2l, 1) := by decide +kernel
theorem d_W_level_8 : decode (mC m_W_level) 8 = .ok (.lastore, 1) := by decide +kernel
theorem d_W_level_9 : decode (mC m_W_level) 9 = .ok (.goto (6), 3) := by decide +kernel
theorem d_W_level_12 : decode (mC m_W_level) 12 = .ok (.astore_n 3, 1) := by decide +kernel
theorem d_W_level_13 : decode (mC m_W_level) 13 = .ok (.iconst 1, 1) := by decide +kernel
theorem d_W_level_14 : decode (mC m_W_level) 14 = .ok (.ireturn, 1) := by decide +kernel
theorem d_W_level_15 : decode (mC m_W_level) 15 = .ok (.iconst 0, 1) := by decide +kernel
theorem d_W_level_16 : decode (mC m_W_level) 16 = .ok (.ireturn, 1) := by decide +kernel
theorem d_M_levelNow_0 : decode (mC m_M_levelNow) 0 = .ok (.iconst 0, 1) := by decide +kernel
theorem d_M_levelNow_1 : decode (mC m_M_levelNow) 1 = .ok (.istore_n 2, 1) := by decide +kernel
theorem d_M_levelNow_2 : decode (mC m_M_levelNow) 2 = .ok (.iconst 0, 1) := by decide +kernel
theorem d_M_levelNow_3 : decode (mC m_M_levelNow) 3 = .ok (.istore_n 3, 1) := by decide +kernel
theorem d_M_levelNow_4 : decode (mC m_M_levelNow) 4 = .ok (.iload_n 3, 1) := by decide +kernel
theorem d_M_levelNow_5 : decode (mC m_M_levelNow) 5 = .ok (.iconst 3, 1) := by decide +kernel
theorem d_M_levelNow_6 : decode (mC m_M_levelNow) 6 = .ok (.if_icmp .ge (49), 3) := by decide +kernel
theorem d_M_levelNow_9 : decode (mC m_M_levelNow) 9 = .ok (.aload_n 0, 1) := by decide +kernel
theorem d_M_levelNow_10 : decode (mC m_M_levelNow) 10 = .ok (.getfield 107, 3) := by decide +kernel
theorem d_M_levelNow_13 : decode (mC m_M_levelNow) 13 = .ok (.iconst 3, 1) := by decide +kernel
theorem d_M_levelNow_14 : decode (mC m_M_levelNow) 14 = .ok (.iload_n 1, 1) := by decide +kernel
theorem d_M_levelNow_15 : decode (mC m_M_levelNow) 15 = .ok (.imul, 1) := by decide +kernel
theorem d_M_levelNow_16 : decode (mC m_M_levelNow) 16 = .ok (.iload_n 3, 1) := by decide +kernel
theorem d_M_levelNow_17 : decode (mC m_M_levelNow) 17 = .ok (.iadd, 1) := by decide +kernel
theorem d_M_levelNow_18 : decode (mC m_M_levelNow) 18 = .ok (.iaload, 1) := by decide +kernel
theorem d_M_levelNow_19 : decode (mC m_M_levelNow) 19 = .ok (.istore 4, 2) := by decide +kernel
theorem d_M_levelNow_21 : decode (mC m_M_levelNow) 21 = .ok (.iload_n 2, 1) := by decide +kernel
theorem d_M_levelNow_22 : decode (mC m_M_levelNow) 22 = .ok (.iload 4, 2) := by decide +kernel
theorem d_M_levelNow_24 : decode (mC m_M_levelNow) 24 = .ok (.iconst (-1), 1) := by decide +kernel
theorem d_M_levelNow_25 : decode (mC m_M_levelNow) 25 = .ok (.if_icmp .eq (21), 3) := by decide +kernel
theorem d_M_levelNow_28 : decode (mC m_M_levelNow) 28 = .ok (.aload_n 0, 1) := by decide +kernel
theorem d_M_levelNow_29 : decode (mC m_M_levelNow) 29 = .ok (.getfield 247, 3) := by decide +kernel
theorem d_M_levelNow_32 : decode (mC m_M_levelNow) 32 = .ok (.iload 4, 2) := by decide +kernel
theorem d_M_levelNow_34 : decode (mC m_M_levelNow) 34 = .ok (.isub, 1) := by decide +kernel
theorem d_M_levelNow_35 : decode (mC m_M_levelNow) 35 = .ok (.bipush (120), 2) := by decide +kernel
theorem d_M_levelNow_37 : decode (mC m_M_levelNow) 37 = .ok (.if_icmp .gt (9), 3) := by decide +kernel
theorem d_M_levelNow_40 : decode (mC m_M_levelNow) 40 = .ok (.iconst 1, 1) := by decide +kernel
theorem d_M_levelNow_41 : decode (mC m_M_levelNow) 41 = .ok (.iload_n 3, 1) := by decide +kernel
theorem d_M_levelNow_42 : decode (mC m_M_levelNow) 42 = .ok (.ishl, 1) := by decide +kernel
theorem d_M_levelNow_43 : decode (mC m_M_levelNow) 43 = .ok (.goto (4), 3) := by decide +kernel
theorem d_M_levelNow_46 : decode (mC m_M_levelNow) 46 = .ok (.iconst 0, 1) := by decide +kernel
theorem d_M_levelNow_47 : decode (mC m_M_levelNow) 47 = .ok (.ior, 1) := by decide +kernel
theorem d_M_levelNow_48 : decode (mC m_M_levelNow) 48 = .ok (.istore_n 2, 1) := by decide +kernel
theorem d_M_levelNow_49 : decode (mC m_M_levelNow) 49 = .ok (.iinc 3 (1), 3) := by decide +kernel
theorem d_M_levelNow_52 : decode (mC m_M_levelNow) 52 = .ok (.goto (-48), 3) := by decide +kernel
theorem d_M_levelNow_55 : decode (mC m_M_levelNow) 55 = .ok (.iload_n 2, 1) := by decide +kernel
theorem d_M_levelNow_56 : decode (mC m_M_levelNow) 56 = .ok (.invokestatic 309, 3) := by decide +kernel
theorem d_M_levelNow_59 : decode (mC m_M_levelNow) 59 = .ok (.ireturn, 1) := by decide +kernel
theorem d_M_level_0 : decode (mC m_M_level) 0 = .ok (.aload_n 0, 1) := by decide +kernel
theorem d_M_level_1 : decode (mC m_M_level) 1 = .ok (.aload_n 0, 1) := by decide +kernel
theorem d_M_level_2 : decode (mC m_M_level) 2 = .ok (.iload_n 1, 1) := by decide +kernel
theorem d_M_level_3 : decode (mC m_M_level) 3 = .ok (.invokevirtual 352, 3) := by decide +kernel
theorem d_M_level_6 : decode (mC m_M_level) 6 = .ok (.invokevirtual 251, 3) := by decide +kernel
theorem d_M_level_9 : decode (mC m_M_level) 9 = .ok (.ifCond .eq (11), 3) := by decide +kernel
theorem d_M_level_12 : decode (mC m_M_level) 12 = .ok (.aload_n 0, 1) := by decide +kernel
theorem d_M_level_13 : decode (mC m_M_level) 13 = .ok (.iload_n 1, 1) := by decide +kernel
theorem d_M_level_14 : decode (mC m_M_level) 14 = .ok (.invokevirtual 355, 3) := by decide +kernel
theorem d_M_level_17 : decode (mC m_M_level) 17 = .ok (.goto (4), 3) := by decide +kernel
theorem d_M_level_20 : decode (mC m_M_level) 20 = .ok (.iconst 0, 1) := by decide +kernel
theorem d_M_level_21 : decode (mC m_M_level) 21 = .ok (.ireturn, 1) := by decide +kernel
theorem d_K_stepUp_0 : decode (mC m_K_stepUp) 0 = .ok (.aload_n 0, 1) := by decide +kernel
theorem d_K_stepUp_1 : decode (mC m_K_stepUp) 1 = .ok (.iload_n 1, 1) := by decide +kernel
theorem d_K_stepUp_2 : decode (mC m_K_stepUp) 2 = .ok (.invokevirtual 202, 3) := by decide +kernel
theorem d_K_stepUp_5 : decode (mC m_K_stepUp) 5 = .ok (.astore 5, 2) := by decide +kernel
theorem d_K_stepUp_7 : decode (mC m_K_stepUp) 7 = .ok (.iload_n 2, 1) := by decide +kernel
theorem d_K_stepUp_8 : decode (mC m_K_stepUp) 8 = .ok (.invokestatic 112, 3) := by decide +kernel
theorem d_K_stepUp_11 : decode (mC m_K_stepUp) 11 = .ok (.ifCond .eq (19), 3) := by decide +kernel
theorem d_K_stepUp_14 : decode (mC m_K_stepUp) 14 = .ok (.iload 4, 2) := by decide +kernel
theorem d_K_stepUp_16 : decode (mC m_K_stepUp) 16 = .ok (.iconst 0, 1) := by decide +kernel
theorem d_K_stepUp_17 : decode (mC m_K_stepUp) 17 = .ok (.sipush (9999), 3) := by decide +kernel
theorem d_K_stepUp_20 : decode (mC m_K_stepUp) 20 = .ok (.invokestatic 84, 3) := by decide +kernel
theorem d_K_stepUp_23 : decode (mC m_K_stepUp) 23 = .ok (.ifCond .eq (7), 3) := by decide +kernel
theorem d_K_stepUp_26 : decode (mC m_K_stepUp) 26 = .ok (.iconst 1, 1) := by decide +kernel
theorem d_K_stepUp_27 : decode (mC m_K_stepUp) 27 = .ok (.goto (4), 3) := by decide +kernel
theorem d_K_stepUp_30 : decode (mC m_K_stepUp) 30 = .ok (.iconst 0, 1) := by decide +kernel
theorem d_K_stepUp_31 : decode (mC m_K_stepUp) 31 = .ok (.invokestatic 88, 3) := by decide +kernel
theorem d_K_stepUp_34 : decode (mC m_K_stepUp) 34 = .ok (.aload 5, 2) := by decide +kernel
theorem d_K_stepUp_36 : decode (mC m_K_stepUp) 36 = .ok (.getfield 206, 3) := by decide +kernel
theorem d_K_stepUp_39 : decode (mC m_K_stepUp) 39 = .ok (.ifCond .eq (15), 3) := by decide +kernel
theorem d_K_stepUp_42 : decode (mC m_K_stepUp) 42 = .ok (.aload 5, 2) := by decide +kernel
theorem d_K_stepUp_44 : decode (mC m_K_stepUp) 44 = .ok (.getfield 218, 3) := by decide +kernel
theorem d_K_stepUp_47 : decode (mC m_K_stepUp) 47 = .ok (.ifnonnull (7), 3) := by decide +kernel
theorem d_K_stepUp_50 : decode (mC m_K_stepUp) 50 = .ok (.iconst 1, 1) := by decide +kernel
theorem d_K_stepUp_51 : decode (mC m_K_stepUp) 51 = .ok (.goto (4), 3) := by decide +kernel
theorem d_K_stepUp_54 : decode (mC m_K_stepUp) 54 = .ok (.iconst 0, 1) := by decide +kernel
theorem d_K_stepUp_55 : decode (mC m_K_stepUp) 55 = .ok (.invokestatic 96, 3) := by decide +kernel
theorem d_K_stepUp_58 : decode (mC m_K_stepUp) 58 = .ok (.aload 5, 2) := by decide +kernel
theorem d_K_stepUp_60 : decode (mC m_K_stepUp) 60 = .ok (.aload_n 0, 1) := by decide +kernel
theorem d_K_stepUp_61 : decode (mC m_K_stepUp) 61 = .ok (.getfield 92, 3) := by decide +kernel
theorem d_K_stepUp_64 : decode (mC m_K_stepUp) 64 = .ok (.putfield 222, 3) := by decide +kernel
theorem d_K_stepUp_67 : decode (mC m_K_stepUp) 67 = .ok (.aload_n 0, 1) := by decide +kernel
theorem d_K_stepUp_68 : decode (mC m_K_stepUp) 68 = .ok (.aload 5, 2) := by decide +kernel
theorem d_K_stepUp_70 : decode (mC m_K_stepUp) 70 = .ok (.getfield 225, 3) := by decide +kernel
theorem d_K_stepUp_73 : decode (mC m_K_stepUp) 73 = .ok (.iload_n 2, 1) := by decide +kernel
theorem d_K_stepUp_74 : decode (mC m_K_stepUp) 74 = .ok (.iload_n 3, 1) := by decide +kernel
theorem d_K_stepUp_75 : decode (mC m_K_stepUp) 75 = .ok (.iload 4, 2) := by decide +kernel
theorem d_K_stepUp_77 : decode (mC m_K_stepUp) 77 = .ok (.invokevirtual 229, 3) := by decide +kernel
theorem d_K_stepUp_80 : decode (mC m_K_stepUp) 80 = .ok (.ifCond .eq (16), 3) := by decide +kernel
theorem d_K_stepUp_83 : decode (mC m_K_stepUp) 83 = .ok (.aload 5, 2) := by decide +kernel
theorem d_K_stepUp_85 : decode (mC m_K_stepUp) 85 = .ok (.getfield 233, 3) := by decide +kernel
theorem d_K_stepUp_88 : decode (mC m_K_stepUp) 88 = .ok (.iload_n 2, 1) := by decide +kernel
theorem d_K_stepUp_89 : decode (mC m_K_stepUp) 89 = .ok (.aload_n 0, 1) := by decide +kernel
theorem d_K_stepUp_90 : decode (mC m_K_stepUp) 90 = .ok (.getfield 92, 3) := by decide +kernel
theorem d_K_stepUp_93 : decode (mC m_K_stepUp) 93 = .ok (.invokevirtual 237, 3) := by decide +kernel
theorem d_K_stepUp_96 : decode (mC m_K_stepUp) 96 = .ok (.aload 5, 2) := by decide +kernel
theorem d_K_stepUp_98 : decode (mC m_K_stepUp) 98 = .ok (.aload_n 0, 1) := by decide +kernel
theorem d_K_stepUp_99 : decode (mC m_K_stepUp) 99 = .ok (.getfield 92, 3) := by decide +kernel
theorem d_K_stepUp_102 : decode (mC m_K_stepUp) 102 = .ok (.invokevirtual 215, 3) := by decide +kernel
theorem d_K_stepUp_105 : decode (mC m_K_stepUp) 105 = .ok (.ireturn, 1) := by decide +kernel
theorem d_W_stepUp_0 : decode (mC m_W_stepUp) 0 = .ok (.aload 5, 2) := by decide +kernel
theorem d_W_stepUp_2 : decode (mC m_W_stepUp) 2 = .ok (.iconst 0, 1) := by decide +kernel
theorem d_W_stepUp_3 : decode (mC m_W_stepUp) 3 = .ok (.aload_n 0, 1) := by decide +kernel
theorem d_W_stepUp_4 : decode (mC m_W_stepUp) 4 = .ok (.iload_n 1, 1) := by decide +kernel
theorem d_W_stepUp_5 : decode (mC m_W_stepUp) 5 = .ok (.iload_n 2, 1) := by decide +kernel
theorem d_W_stepUp_6 : decode (mC m_W_stepUp) 6 = .ok (.iload_n 3, 1) := by decide +kernel
theorem d_W_stepUp_7 : decode (mC m_W_stepUp) 7 = .ok (.iload 4, 2) := by decide +kernel
theorem d_W_stepUp_9 : decode (mC m_W_stepUp) 9 = .ok (.invokevirtual 74, 3) := by decide +kernel
theorem d_W_stepUp_12 : decode (mC m_W_stepUp) 12 = .ok (.i2l, 1) := by decide +kernel
theorem d_W_stepUp_13 : decode (mC m_W_stepUp) 13 = .ok (.lastore, 1) := by decide +kernel
theorem d_W_stepUp_14 : decode (mC m_W_stepUp) 14 = .ok (.goto (15), 3) := by decide +kernel
theorem d_W_stepUp_17 : decode (mC m_W_stepUp) 17 = .ok (.astore 6, 2) := by decide +kernel
theorem d_W_stepUp_19 : decode (mC m_W_stepUp) 19 = .ok (.iconst 1, 1) := by decide +kernel
theorem d_W_stepUp_20 : decode (mC m_W_stepUp) 20 = .ok (.ireturn, 1) := by decide +kernel
theorem d_W_stepUp_21 : decode (mC m_W_stepUp) 21 = .ok (.astore 6, 2) := by decide +kernel
theorem d_W_stepUp_23 : decode (mC m_W_stepUp) 23 = .ok (.iconst 2, 1) := by decide +kernel
theorem d_W_stepUp_24 : decode (mC m_W_stepUp) 24 = .ok (.ireturn, 1) := by decide +kernel
theorem d_W_stepUp_25 : decode (mC m_W_stepUp) 25 = .ok (.astore 6, 2) := by decide +kernel
theorem d_W_stepUp_27 : decode (mC m_W_stepUp) 27 = .ok (.iconst 3, 1) := by decide +kernel
theorem d_W_stepUp_28 : decode (mC m_W_stepUp) 28 = .ok (.ireturn, 1) := by decide +kernel
theorem d_W_stepUp_29 : decode (mC m_W_stepUp) 29 = .ok (.iconst 0, 1) := by decide +kernel
theorem d_W_stepUp_30 : decode (mC m_W_stepUp) 30 = .ok (.ireturn, 1) := by decide +kernel
theorem d_M_stepUp_0 : decode (mC m_M_stepUp) 0 = .ok (.aload_n 0, 1) := by decide +kernel
theorem d_M_stepUp_1 : decode (mC m_M_stepUp) 1 = .ok (.iload_n 1, 1) := by decide +kernel
theorem d_M_stepUp_2 : decode (mC m_M_stepUp) 2 = .ok (.invokevirtual 352, 3) := by decide +kernel
theorem d_M_stepUp_5 : decode (mC m_M_stepUp) 5 = .ok (.istore 5, 2) := by decide +kernel
theorem d_M_stepUp_7 : decode (mC m_M_stepUp) 7 = .ok (.aload_n 0, 1) := by decide +kernel
theorem d_M_stepUp_8 : decode (mC m_M_stepUp) 8 = .ok (.iload 5, 2) := by decide +kernel
theorem d_M_stepUp_10 : decode (mC m_M_stepUp) 10 = .ok (.iload_n 2, 1) := by decide +kernel
theorem d_M_stepUp_11 : decode (mC m_M_stepUp) 11 = .ok (.invokestatic 288, 3) := by decide +kernel
theorem d_M_stepUp_14 : decode (mC m_M_stepUp) 14 = .ok (.ifCond .eq (19), 3) := by decide +kernel
theorem d_M_stepUp_17 : decode (mC m_M_stepUp) 17 = .ok (.iload 4, 2) := by decide +kernel
theorem d_M_stepUp_19 : decode (mC m_M_stepUp) 19 = .ok (.iconst 0, 1) := by decide +kernel
theorem d_M_stepUp_20 : decode (mC m_M_stepUp) 20 = .ok (.sipush (9999), 3) := by decide +kernel
theorem d_M_stepUp_23 : decode (mC m_M_stepUp) 23 = .ok (.invokestatic 228, 3) := by decide +kernel
theorem d_M_stepUp_26 : decode (mC m_M_stepUp) 26 = .ok (.ifCond .eq (7), 3) := by decide +kernel
theorem d_M_stepUp_29 : decode (mC m_M_stepUp) 29 = .ok (.iconst 1, 1) := by decide +kernel
theorem d_M_stepUp_30 : decode (mC m_M_stepUp) 30 = .ok (.goto (4), 3) := by decide +kernel
theorem d_M_stepUp_33 : decode (mC m_M_stepUp) 33 = .ok (.iconst 0, 1) := by decide +kernel
theorem d_M_stepUp_34 : decode (mC m_M_stepUp) 34 = .ok (.iload 5, 2) := by decide +kernel
theorem d_M_stepUp_36 : decode (mC m_M_stepUp) 36 = .ok (.ifCond .eq (26), 3) := by decide +kernel
theorem d_M_stepUp_39 : decode (mC m_M_stepUp) 39 = .ok (.aload_n 0, 1) := by decide +kernel
theorem d_M_stepUp_40 : decode (mC m_M_stepUp) 40 = .ok (.getfield 104, 3) := by decide +kernel
theorem d_M_stepUp_43 : decode (mC m_M_stepUp) 43 = .ok (.iload_n 1, 1) := by decide +kernel
theorem d_M_stepUp_44 : decode (mC m_M_stepUp) 44 = .ok (.baload, 1) := by decide +kernel
theorem d_M_stepUp_45 : decode (mC m_M_stepUp) 45 = .ok (.ifCond .eq (17), 3) := by decide +kernel
theorem d_M_stepUp_48 : decode (mC m_M_stepUp) 48 = .ok (.aload_n 0, 1) := by decide +kernel
theorem d_M_stepUp_49 : decode (mC m_M_stepUp) 49 = .ok (.getfield 101, 3) := by decide +kernel
theorem d_M_stepUp_52 : decode (mC m_M_stepUp) 52 = .ok (.iload_n 1, 1) := by decide +kernel
theorem d_M_stepUp_53 : decode (mC m_M_stepUp) 53 = .ok (.iaload, 1) := by decide +kernel
theorem d_M_stepUp_54 : decode (mC m_M_stepUp) 54 = .ok (.iconst (-1), 1) := by decide +kernel
theorem d_M_stepUp_55 : decode (mC m_M_stepUp) 55 = .ok (.if_icmp .ne (7), 3) := by decide +kernel
theorem d_M_stepUp_58 : decode (mC m_M_stepUp) 58 = .ok (.iconst 1, 1) := by decide +kernel
theorem d_M_stepUp_59 : decode (mC m_M_stepUp) 59 = .ok (.goto (4), 3) := by decide +kernel
theorem d_M_stepUp_62 : decode (mC m_M_stepUp) 62 = .ok (.iconst 0, 1) := by decide +kernel
theorem d_M_stepUp_63 : decode (mC m_M_stepUp) 63 = .ok (.invokevirtual 344, 3) := by decide +kernel
theorem d_M_stepUp_66 : decode (mC m_M_stepUp) 66 = .ok (.ifCond .ne (5), 3) := by decide +kernel
theorem d_M_stepUp_69 : decode (mC m_M_stepUp) 69 = .ok (.iconst 0, 1) := by decide +kernel
theorem d_M_stepUp_70 : decode (mC m_M_stepUp) 70 = .ok (.ireturn, 1) := by decide +kernel
theorem d_M_stepUp_71 : decode (mC m_M_stepUp) 71 = .ok (.aload_n 0, 1) := by decide +kernel
theorem d_M_stepUp_72 : decode (mC m_M_stepUp) 72 = .ok (.getfield 98, 3) := by decide +kernel
theorem d_M_stepUp_75 : decode (mC m_M_stepUp) 75 = .ok (.iload_n 1, 1) := by decide +kernel
theorem d_M_stepUp_76 : decode (mC m_M_stepUp) 76 = .ok (.aload_n 0, 1) := by decide +kernel
theorem d_M_stepUp_77 : decode (mC m_M_stepUp) 77 = .ok (.getfield 247, 3) := by decide +kernel
theorem d_M_stepUp_80 : decode (mC m_M_stepUp) 80 = .ok (.iastore, 1) := by decide +kernel
theorem d_M_stepUp_81 : decode (mC m_M_stepUp) 81 = .ok (.aload_n 0, 1) := by decide +kernel
theorem d_M_stepUp_82 : decode (mC m_M_stepUp) 82 = .ok (.aload_n 0, 1) := by decide +kernel
theorem d_M_stepUp_83 : decode (mC m_M_stepUp) 83 = .ok (.getfield 92, 3) := by decide +kernel
theorem d_M_stepUp_86 : decode (mC m_M_stepUp) 86 = .ok (.iload_n 1, 1) := by decide +kernel
theorem d_M_stepUp_87 : decode (mC m_M_stepUp) 87 = .ok (.iaload, 1) := by decide +kernel
theorem d_M_stepUp_88 : decode (mC m_M_stepUp) 88 = .ok (.iload_n 2, 1) := by decide +kernel
theorem d_M_stepUp_89 : decode (mC m_M_stepUp) 89 = .ok (.iload_n 3, 1) := by decide +kernel
theorem d_M_stepUp_90 : decode (mC m_M_stepUp) 90 = .ok (.iload 4, 2) := by decide +kernel
theorem d_M_stepUp_92 : decode (mC m_M_stepUp) 92 = .ok (.invokevirtual 348, 3) := by decide +kernel
theorem d_M_stepUp_95 : decode (mC m_M_stepUp) 95 = .ok (.ifCond .eq (17), 3) := by decide +kernel
theorem d_M_stepUp_98 : decode (mC m_M_stepUp) 98 = .ok (.aload_n 0, 1) := by decide +kernel
theorem d_M_stepUp_99 : decode (mC m_M_stepUp) 99 = .ok (.getfield 107, 3) := by decide +kernel
theorem d_M_stepUp_102 : decode (mC m_M_stepUp) 102 = .ok (.iconst 3, 1) := by decide +kernel
theorem d_M_stepUp_103 : decode (mC m_M_stepUp) 103 = .ok (.iload_n 1, 1) := by decide +kernel
theorem d_M_stepUp_104 : decode (mC m_M_stepUp) 104 = .ok (.imul, 1) := by decide +kernel
theorem d_M_stepUp_105 : decode (mC m_M_stepUp) 105 = .ok (.iload_n 2, 1) := by decide +kernel
theorem d_M_stepUp_106 : decode (mC m_M_stepUp) 106 = .ok (.iadd, 1) := by decide +kernel
theorem d_M_stepUp_107 : decode (mC m_M_stepUp) 107 = .ok (.aload_n 0, 1) := by decide +kernel
theorem d_M_stepUp_108 : decode (mC m_M_stepUp) 108 = .ok (.getfield 247, 3) := by decide +kernel
theorem d_M_stepUp_111 : decode (mC m_M_stepUp) 111 = .ok (.iastore, 1) := by decide +kernel
theorem d_M_stepUp_112 : decode (mC m_M_stepUp) 112 = .ok (.aload_n 0, 1) := by decide +kernel
theorem d_M_stepUp_113 : decode (mC m_M_stepUp) 113 = .ok (.iload_n 1, 1) := by decide +kernel
theorem d_M_stepUp_114 : decode (mC m_M_stepUp) 114 = .ok (.invokevirtual 355, 3) := by decide +kernel
theorem d_M_stepUp_117 : decode (mC m_M_stepUp) 117 = .ok (.ireturn, 1) := by decide +kernel
theorem d_K_signOut_0 : decode (mC m_K_signOut) 0 = .ok (.aload_n 0, 1) := by decide +kernel
theorem d_K_signOut_1 : decode (mC m_K_signOut) 1 = .ok (.iload_n 1, 1) := by decide +kernel
theorem d_K_signOut_2 : decode (mC m_K_signOut) 2 = .ok (.invokevirtual 202, 3) := by decide +kernel
theorem d_K_signOut_5 : decode (mC m_K_signOut) 5 = .ok (.astore_n 2, 1) := by decide +kernel
theorem d_K_signOut_6 : decode (mC m_K_signOut) 6 = .ok (.aload_n 2, 1) := by decide +kernel
theorem d_K_signOut_7 : decode (mC m_K_signOut) 7 = .ok (.getfield 206, 3) := by decide +kernel
theorem d_K_signOut_10 : decode (mC m_K_signOut) 10 = .ok (.invokestatic 96, 3) := by decide +kernel
theorem d_K_signOut_13 : decode (mC m_K_signOut) 13 = .ok (.aload_n 0, 1) := by decide +kernel
theorem d_K_signOut_14 : decode (mC m_K_signOut) 14 = .ok (.getfield 99, 3) := by decide +kernel
theorem d_K_signOut_17 : decode (mC m_K_signOut) 17 = .ok (.istore_n 3, 1) := by decide +kernel
theorem d_K_signOut_18 : decode (mC m_K_signOut) 18 = .ok (.aload_n 0, 1) := by decide +kernel
theorem d_K_signOut_19 : decode (mC m_K_signOut) 19 = .ok (.aload_n 2, 1) := by decide +kernel
theorem d_K_signOut_20 : decode (mC m_K_signOut) 20 = .ok (.invokevirtual 242, 3) := by decide +kernel
theorem d_K_signOut_23 : decode (mC m_K_signOut) 23 = .ok (.iload_n 3, 1) := by decide +kernel
theorem d_K_signOut_24 : decode (mC m_K_signOut) 24 = .ok (.aload_n 0, 1) := by decide +kernel
theorem d_K_signOut_25 : decode (mC m_K_signOut) 25 = .ok (.getfield 99, 3) := by decide +kernel
theorem d_K_signOut_28 : decode (mC m_K_signOut) 28 = .ok (.isub, 1) := by decide +kernel
theorem d_K_signOut_29 : decode (mC m_K_signOut) 29 = .ok (.ireturn, 1) := by decide +kernel
theorem d_W_signOut_0 : decode (mC m_W_signOut) 0 = .ok (.aload_n 2, 1) := by decide +kernel
theorem d_W_signOut_1 : decode (mC m_W_signOut) 1 = .ok (.iconst 0, 1) := by decide +kernel
theorem d_W_signOut_2 : decode (mC m_W_signOut) 2 = .ok (.aload_n 0, 1) := by decide +kernel
theorem d_W_signOut_3 : decode (mC m_W_signOut) 3 = .ok (.iload_n 1, 1) := by decide +kernel
theorem d_W_signOut_4 : decode (mC m_W_signOut) 4 = .ok (.invokevirtual 78, 3) := by decide +kernel
theorem d_W_signOut_7 : decode (mC m_W_signOut) 7 = .ok (.i2l, 1) := by decide +kernel
theorem d_W_signOut_8 : decode (mC m_W_signOut) 8 = .ok (.lastore, 1) := by decide +kernel
theorem d_W_signOut_9 : decode (mC m_W_signOut) 9 = .ok (.goto (9), 3) := by decide +kernel
theorem d_W_signOut_12 : decode (mC m_W_signOut) 12 = .ok (.astore_n 3, 1) := by decide +kernel
theorem d_W_signOut_13 : decode (mC m_W_signOut) 13 = .ok (.iconst 1, 1) := by decide +kernel
theorem d_W_signOut_14 : decode (mC m_W_signOut) 14 = .ok (.ireturn, 1) := by decide +kernel
theorem d_W_signOut_15 : decode (mC m_W_signOut) 15 = .ok (.astore_n 3, 1) := by decide +kernel
theorem d_W_signOut_16 : decode (mC m_W_signOut) 16 = .ok (.iconst 2, 1) := by decide +kernel
theorem d_W_signOut_17 : decode (mC m_W_signOut) 17 = .ok (.ireturn, 1) := by decide +kernel
theorem d_W_signOut_18 : decode (mC m_W_signOut) 18 = .ok (.iconst 0, 1) := by decide +kernel
theorem d_W_signOut_19 : decode (mC m_W_signOut) 19 = .ok (.ireturn, 1) := by decide +kernel
theorem d_M_signOut_0 : decode (mC m_M_signOut) 0 = .ok (.aload_n 0, 1) := by decide +kernel
theorem d_M_signOut_1 : decode (mC m_M_signOut) 1 = .ok (.iload_n 1, 1) := by decide +kernel
theorem d_M_signOut_2 : decode (mC m_M_signOut) 2 = .ok (.invokevirtual 352, 3) := by decide +kernel
theorem d_M_signOut_5 : decode (mC m_M_signOut) 5 = .ok (.istore_n 2, 1) := by decide +kernel
theorem d_M_signOut_6 : decode (mC m_M_signOut) 6 = .ok (.aload_n 0, 1) := by decide +kernel
theorem d_M_signOut_7 : decode (mC m_M_signOut) 7 = .ok (.iload_n 2, 1) := by decide +kernel
theorem d_M_signOut_8 : decode (mC m_M_signOut) 8 = .ok (.iload_n 2, 1) := by decide +kernel
theorem d_M_signOut_9 : decode (mC m_M_signOut) 9 = .ok (.ifCond .eq (16), 3) := by decide +kernel
theorem d_M_signOut_12 : decode (mC m_M_signOut) 12 = .ok (.aload_n 0, 1) := by decide +kernel
theorem d_M_signOut_13 : decode (mC m_M_signOut) 13 = .ok (.getfield 104, 3) := by decide +kernel
theorem d_M_signOut_16 : decode (mC m_M_signOut) 16 = .ok (.iload_n 1, 1) := by decide +kernel
theorem d_M_signOut_17 : decode (mC m_M_signOut) 17 = .ok (.baload, 1) := by decide +kernel
theorem d_M_signOut_18 : decode (mC m_M_signOut) 18 = .ok (.ifCond .eq (7), 3) := by decide +kernel
theorem d_M_signOut_21 : decode (mC m_M_signOut) 21 = .ok (.iconst 1, 1) := by decide +kernel
theorem d_M_signOut_22 : decode (mC m_M_signOut) 22 = .ok (.goto (4), 3) := by decide +kernel
theorem d_M_signOut_25 : decode (mC m_M_signOut) 25 = .ok (.iconst 0, 1) := by decide +kernel
theorem d_M_signOut_26 : decode (mC m_M_signOut) 26 = .ok (.invokevirtual 274, 3) := by decide +kernel
theorem d_M_signOut_29 : decode (mC m_M_signOut) 29 = .ok (.ifCond .eq (11), 3) := by decide +kernel
theorem d_M_signOut_32 : decode (mC m_M_signOut) 32 = .ok (.aload_n 0, 1) := by decide +kernel
theorem d_M_signOut_33 : decode (mC m_M_signOut) 33 = .ok (.iload_n 1, 1) := by decide +kernel
theorem d_M_signOut_34 : decode (mC m_M_signOut) 34 = .ok (.invokevirtual 270, 3) := by decide +kernel
theorem d_M_signOut_37 : decode (mC m_M_signOut) 37 = .ok (.goto (4), 3) := by decide +kernel
theorem d_M_signOut_40 : decode (mC m_M_signOut) 40 = .ok (.iconst 0, 1) := by decide +kernel
theorem d_M_signOut_41 : decode (mC m_M_signOut) 41 = .ok (.ireturn, 1) := by decide +kernel
theorem d_K_helper_0 : decode (mC m_K_helper) 0 = .ok (.aload_n 0, 1) := by decide +kernel
theorem d_K_helper_1 : decode (mC m_K_helper) 1 = .ok (.iload_n 1, 1) := by decide +kernel
theorem d_K_helper_2 : decode (mC m_K_helper) 2 = .ok (.invokevirtual 108, 3) := by decide +kernel
theorem d_K_helper_5 : decode (mC m_K_helper) 5 = .ok (.astore_n 2, 1) := by decide +kernel
theorem d_K_helper_6 : decode (mC m_K_helper) 6 = .ok (.aload_n 2, 1) := by decide +kernel
theorem d_K_helper_7 : decode (mC m_K_helper) 7 = .ok (.aload_n 2, 1) := by decide +kernel
theorem d_K_helper_8 : decode (mC m_K_helper) 8 = .ok (.getfield 246, 3) := by decide +kernel
theorem d_K_helper_11 : decode (mC m_K_helper) 11 = .ok (.ifCond .ne (7), 3) := by decide +kernel
theorem d_K_helper_14 : decode (mC m_K_helper) 14 = .ok (.iconst 1, 1) := by decide +kernel
theorem d_K_helper_15 : decode (mC m_K_helper) 15 = .ok (.goto (4), 3) := by decide +kernel
theorem d_K_helper_18 : decode (mC m_K_helper) 18 = .ok (.iconst 0, 1) := by decide +kernel
theorem d_K_helper_19 : decode (mC m_K_helper) 19 = .ok (.putfield 246, 3) := by decide +kernel
theorem d_K_helper_22 : decode (mC m_K_helper) 22 = .ok (.aload_n 2, 1) := by decide +kernel
theorem d_K_helper_23 : decode (mC m_K_helper) 23 = .ok (.getfield 246, 3) := by decide +kernel
theorem d_K_helper_26 : decode (mC m_K_helper) 26 = .ok (.ireturn, 1) := by decide +kernel
theorem d_W_helper_0 : decode (mC m_W_helper) 0 = .ok (.aload_n 2, 1) := by decide +kernel
theorem d_W_helper_1 : decode (mC m_W_helper) 1 = .ok (.iconst 0, 1) := by decide +kernel
theorem d_W_helper_2 : decode (mC m_W_helper) 2 = .ok (.aload_n 0, 1) := by decide +kernel
theorem d_W_helper_3 : decode (mC m_W_helper) 3 = .ok (.iload_n 1, 1) := by decide +kernel
theorem d_W_helper_4 : decode (mC m_W_helper) 4 = .ok (.invokevirtual 81, 3) := by decide +kernel
theorem d_W_helper_7 : decode (mC m_W_helper) 7 = .ok (.ifCond .eq (7), 3) := by decide +kernel
theorem d_W_helper_10 : decode (mC m_W_helper) 10 = .ok (.lconst 1, 1) := by decide +kernel
theorem d_W_helper_11 : decode (mC m_W_helper) 11 = .ok (.goto (4), 3) := by decide +kernel
theorem d_W_helper_14 : decode (mC m_W_helper) 14 = .ok (.lconst 0, 1) := by decide +kernel
theorem d_W_helper_15 : decode (mC m_W_helper) 15 = .ok (.lastore, 1) := by decide +kernel
theorem d_W_helper_16 : decode (mC m_W_helper) 16 = .ok (.goto (6), 3) := by decide +kernel
theorem d_W_helper_19 : decode (mC m_W_helper) 19 = .ok (.astore_n 3, 1) := by decide +kernel
theorem d_W_helper_20 : decode (mC m_W_helper) 20 = .ok (.iconst 1, 1) := by decide +kernel
theorem d_W_helper_21 : decode (mC m_W_helper) 21 = .ok (.ireturn, 1) := by decide +kernel
theorem d_W_helper_22 : decode (mC m_W_helper) 22 = .ok (.iconst 0, 1) := by decide +kernel
theorem d_W_helper_23 : decode (mC m_W_helper) 23 = .ok (.ireturn, 1) := by decide +kernel
theorem d_M_helper_0 : decode (mC m_M_helper) 0 = .ok (.aload_n 0, 1) := by decide +kernel
theorem d_M_helper_1 : decode (mC m_M_helper) 1 = .ok (.iload_n 1, 1) := by decide +kernel
theorem d_M_helper_2 : decode (mC m_M_helper) 2 = .ok (.invokestatic 284, 3) := by decide +kernel
theorem d_M_helper_5 : decode (mC m_M_helper) 5 = .ok (.invokevirtual 251, 3) := by decide +kernel
theorem d_M_helper_8 : decode (mC m_M_helper) 8 = .ok (.ifCond .ne (5), 3) := by decide +kernel
theorem d_M_helper_11 : decode (mC m_M_helper) 11 = .ok (.iconst 0, 1) := by decide +kernel
theorem d_M_helper_12 : decode (mC m_M_helper) 12 = .ok (.ireturn, 1) := by decide +kernel
theorem d_M_helper_13 : decode (mC m_M_helper) 13 = .ok (.aload_n 0, 1) := by decide +kernel
theorem d_M_helper_14 : decode (mC m_M_helper) 14 = .ok (.getfield 32, 3) := by decide +kernel
theorem d_M_helper_17 : decode (mC m_M_helper) 17 = .ok (.iload_n 1, 1) := by decide +kernel
theorem d_M_helper_18 : decode (mC m_M_helper) 18 = .ok (.aload_n 0, 1) := by decide +kernel
theorem d_M_helper_19 : decode (mC m_M_helper) 19 = .ok (.getfield 32, 3) := by decide +kernel
theorem d_M_helper_22 : decode (mC m_M_helper) 22 = .ok (.iload_n 1, 1) := by decide +kernel
theorem d_M_helper_23 : decode (mC m_M_helper) 23 = .ok (.baload, 1) := by decide +kernel
theorem d_M_helper_24 : decode (mC m_M_helper) 24 = .ok (.ifCond .ne (7), 3) := by decide +kernel
theorem d_M_helper_27 : decode (mC m_M_helper) 27 = .ok (.iconst 1, 1) := by decide +kernel
theorem d_M_helper_28 : decode (mC m_M_helper) 28 = .ok (.goto (4), 3) := by decide +kernel
theorem d_M_helper_31 : decode (mC m_M_helper) 31 = .ok (.iconst 0, 1) := by decide +kernel
theorem d_M_helper_32 : decode (mC m_M_helper) 32 = .ok (.bastore, 1) := by decide +kernel
theorem d_M_helper_33 : decode (mC m_M_helper) 33 = .ok (.aload_n 0, 1) := by decide +kernel
theorem d_M_helper_34 : decode (mC m_M_helper) 34 = .ok (.getfield 32, 3) := by decide +kernel
theorem d_M_helper_37 : decode (mC m_M_helper) 37 = .ok (.iload_n 1, 1) := by decide +kernel
theorem d_M_helper_38 : decode (mC m_M_helper) 38 = .ok (.baload, 1) := by decide +kernel
theorem d_M_helper_39 : decode (mC m_M_helper) 39 = .ok (.ireturn, 1) := by decide +kernel
theorem d_K_act_0 : decode (mC m_K_act) 0 = .ok (.aload_n 0, 1) := by decide +kernel
theorem d_K_act_1 : decode (mC m_K_act) 1 = .ok (.iload_n 1, 1) := by decide +kernel
theorem d_K_act_2 : decode (mC m_K_act) 2 = .ok (.invokevirtual 202, 3) := by decide +kernel
theorem d_K_act_5 : decode (mC m_K_act) 5 = .ok (.astore_n 3, 1) := by decide +kernel
theorem d_K_act_6 : decode (mC m_K_act) 6 = .ok (.aload_n 0, 1) := by decide +kernel
theorem d_K_act_7 : decode (mC m_K_act) 7 = .ok (.iload_n 2, 1) := by decide +kernel
theorem d_K_act_8 : decode (mC m_K_act) 8 = .ok (.invokevirtual 108, 3) := by decide +kernel
theorem d_K_act_11 : decode (mC m_K_act) 11 = .ok (.astore 4, 2) := by decide +kernel
theorem d_K_act_13 : decode (mC m_K_act) 13 = .ok (.aload_n 3, 1) := by decide +kernel
theorem d_K_act_14 : decode (mC m_K_act) 14 = .ok (.getfield 206, 3) := by decide +kernel
theorem d_K_act_17 : decode (mC m_K_act) 17 = .ok (.ifCond .eq (26), 3) := by decide +kernel
theorem d_K_act_20 : decode (mC m_K_act) 20 = .ok (.aload_n 3, 1) := by decide +kernel
theorem d_K_act_21 : decode (mC m_K_act) 21 = .ok (.getfield 218, 3) := by decide +kernel
theorem d_K_act_24 : decode (mC m_K_act) 24 = .ok (.ifnonnull (19), 3) := by decide +kernel
theorem d_K_act_27 : decode (mC m_K_act) 27 = .ok (.aload_n 3, 1) := by decide +kernel
theorem d_K_act_28 : decode (mC m_K_act) 28 = .ok (.aload_n 0, 1) := by decide +kernel
theorem d_K_act_29 : decode (mC m_K_act) 29 = .ok (.getfield 92, 3) := by decide +kernel
theorem d_K_act_32 : decode (mC m_K_act) 32 = .ok (.invokevirtual 215, 3) := by decide +kernel
theorem d_K_act_35 : decode (mC m_K_act) 35 = .ok (.iconst 3, 1) := by decide +kernel
theorem d_K_act_36 : decode (mC m_K_act) 36 = .ok (.if_icmp .lt (7), 3) := by decide +kernel
theorem d_K_act_39 : decode (mC m_K_act) 39 = .ok (.iconst 1, 1) := by decide +kernel
theorem d_K_act_40 : decode (mC m_K_act) 40 = .ok (.goto (4), 3) := by decide +kernel
theorem d_K_act_43 : decode (mC m_K_act) 43 = .ok (.iconst 0, 1) := by decide +kernel
theorem d_K_act_44 : decode (mC m_K_act) 44 = .ok (.invokestatic 96, 3) := by decide +kernel
theorem d_K_act_47 : decode (mC m_K_act) 47 = .ok (.aload_n 3, 1) := by decide +kernel
theorem d_K_act_48 : decode (mC m_K_act) 48 = .ok (.getfield 225, 3) := by decide +kernel
theorem d_K_act_51 : decode (mC m_K_act) 51 = .ok (.getfield 246, 3) := by decide +kernel
theorem d_K_act_54 : decode (mC m_K_act) 54 = .ok (.ifCond .eq (24), 3) := by decide +kernel
theorem d_K_act_57 : decode (mC m_K_act) 57 = .ok (.aload_n 3, 1) := by decide +kernel
theorem d_K_act_58 : decode (mC m_K_act) 58 = .ok (.getfield 225, 3) := by decide +kernel
theorem d_K_act_61 : decode (mC m_K_act) 61 = .ok (.aload 4, 2) := by decide +kernel
theorem d_K_act_63 : decode (mC m_K_act) 63 = .ok (.if_acmp .eq (15), 3) := by decide +kernel
theorem d_K_act_66 : decode (mC m_K_act) 66 = .ok (.aload 4, 2) := by decide +kernel
theorem d_K_act_68 : decode (mC m_K_act) 68 = .ok (.getfield 162, 3) := by decide +kernel
theorem d_K_act_71 : decode (mC m_K_act) 71 = .ok (.ifCond .ne (7), 3) := by decide +kernel
theorem d_K_act_74 : decode (mC m_K_act) 74 = .ok (.iconst 1, 1) := by decide +kernel
theorem d_K_act_75 : decode (mC m_K_act) 75 = .ok (.goto (4), 3) := by decide +kernel
theorem d_K_act_78 : decode (mC m_K_act) 78 = .ok (.iconst 0, 1) := by decide +kernel
theorem d_K_act_79 : decode (mC m_K_act) 79 = .ok (.invokestatic 96, 3) := by decide +kernel
theorem d_K_act_82 : decode (mC m_K_act) 82 = .ok (.aload_n 0, 1) := by decide +kernel
theorem d_K_act_83 : decode (mC m_K_act) 83 = .ok (.getfield 46, 3) := by decide +kernel
theorem d_K_act_86 : decode (mC m_K_act) 86 = .ok (.invokevirtual 134, 3) := by decide +kernel
theorem d_K_act_89 : decode (mC m_K_act) 89 = .ok (.bipush (60), 2) := by decide +kernel
theorem d_K_act_91 : decode (mC m_K_act) 91 = .ok (.if_icmp .ge (7), 3) := by decide +kernel
theorem d_K_act_94 : decode (mC m_K_act) 94 = .ok (.iconst 1, 1) := by decide +kernel
theorem d_K_act_95 : decode (mC m_K_act) 95 = .ok (.goto (4), 3) := by decide +kernel
theorem d_K_act_98 : decode (mC m_K_act) 98 = .ok (.iconst 0, 1) := by decide +kernel
theorem d_K_act_99 : decode (mC m_K_act) 99 = .ok (.invokestatic 96, 3) := by decide +kernel
theorem d_K_act_102 : decode (mC m_K_act) 102 = .ok (.aload_n 0, 1) := by decide +kernel
theorem d_K_act_103 : decode (mC m_K_act) 103 = .ok (.aload 4, 2) := by decide +kernel
theorem d_K_act_105 : decode (mC m_K_act) 105 = .ok (.aload_n 3, 1) := by decide +kernel
theorem d_K_act_106 : decode (mC m_K_act) 106 = .ok (.aload_n 3, 1) := by decide +kernel
theorem d_K_act_107 : decode (mC m_K_act) 107 = .ok (.getfield 233, 3) := by decide +kernel
theorem d_K_act_110 : decode (mC m_K_act) 110 = .ok (.invokevirtual 249, 3) := by decide +kernel
theorem d_K_act_113 : decode (mC m_K_act) 113 = .ok (.ireturn, 1) := by decide +kernel
theorem d_W_act_0 : decode (mC m_W_act) 0 = .ok (.aload_n 3, 1) := by decide +kernel
theorem d_W_act_1 : decode (mC m_W_act) 1 = .ok (.iconst 0, 1) := by decide +kernel
theorem d_W_act_2 : decode (mC m_W_act) 2 = .ok (.aload_n 0, 1) := by decide +kernel
theorem d_W_act_3 : decode (mC m_W_act) 3 = .ok (.iload_n 1, 1) := by decide +kernel
theorem d_W_act_4 : decode (mC m_W_act) 4 = .ok (.iload_n 2, 1) := by decide +kernel
theorem d_W_act_5 : decode (mC m_W_act) 5 = .ok (.invokevirtual 84, 3) := by decide +kernel
theorem d_W_act_8 : decode (mC m_W_act) 8 = .ok (.i2l, 1) := by decide +kernel
theorem d_W_act_9 : decode (mC m_W_act) 9 = .ok (.lastore, 1) := by decide +kernel
theorem d_W_act_10 : decode (mC m_W_act) 10 = .ok (.goto (11), 3) := by decide +kernel
theorem d_W_act_13 : decode (mC m_W_act) 13 = .ok (.astore 4, 2) := by decide +kernel
theorem d_W_act_15 : decode (mC m_W_act) 15 = .ok (.iconst 1, 1) := by decide +kernel
theorem d_W_act_16 : decode (mC m_W_act) 16 = .ok (.ireturn, 1) := by decide +kernel
theorem d_W_act_17 : decode (mC m_W_act) 17 = .ok (.astore 4, 2) := by decide +kernel
theorem d_W_act_19 : decode (mC m_W_act) 19 = .ok (.iconst 2, 1) := by decide +kernel
theorem d_W_act_20 : decode (mC m_W_act) 20 = .ok (.ireturn, 1) := by decide +kernel
theorem d_W_act_21 : decode (mC m_W_act) 21 = .ok (.iconst 0, 1) := by decide +kernel
theorem d_W_act_22 : decode (mC m_W_act) 22 = .ok (.ireturn, 1) := by decide +kernel
theorem d_M_act_0 : decode (mC m_M_act) 0 = .ok (.aload_n 0, 1) := by decide +kernel
theorem d_M_act_1 : decode (mC m_M_act) 1 = .ok (.iload_n 1, 1) := by decide +kernel
theorem d_M_act_2 : decode (mC m_M_act) 2 = .ok (.invokevirtual 352, 3) := by decide +kernel
theorem d_M_act_5 : decode (mC m_M_act) 5 = .ok (.ifCond .eq (14), 3) := by decide +kernel
theorem d_M_act_8 : decode (mC m_M_act) 8 = .ok (.iload_n 2, 1) := by decide +kernel
theorem d_M_act_9 : decode (mC m_M_act) 9 = .ok (.invokestatic 284, 3) := by decide +kernel
theorem d_M_act_12 : decode (mC m_M_act) 12 = .ok (.ifCond .eq (7), 3) := by decide +kernel
theorem d_M_act_15 : decode (mC m_M_act) 15 = .ok (.iconst 1, 1) := by decide +kernel
theorem d_M_act_16 : decode (mC m_M_act) 16 = .ok (.goto (4), 3) := by decide +kernel
theorem d_M_act_19 : decode (mC m_M_act) 19 = .ok (.iconst 0, 1) := by decide +kernel
theorem d_M_act_20 : decode (mC m_M_act) 20 = .ok (.istore_n 3, 1) := by decide +kernel
theorem d_M_act_21 : decode (mC m_M_act) 21 = .ok (.iload_n 3, 1) := by decide +kernel
theorem d_M_act_22 : decode (mC m_M_act) 22 = .ok (.ifCond .eq (49), 3) := by decide +kernel
theorem d_M_act_25 : decode (mC m_M_act) 25 = .ok (.aload_n 0, 1) := by decide +kernel
theorem d_M_act_26 : decode (mC m_M_act) 26 = .ok (.getfield 104, 3) := by decide +kernel
theorem d_M_act_29 : decode (mC m_M_act) 29 = .ok (.iload_n 1, 1) := by decide +kernel
theorem d_M_act_30 : decode (mC m_M_act) 30 = .ok (.baload, 1) := by decide +kernel
theorem d_M_act_31 : decode (mC m_M_act) 31 = .ok (.ifCond .eq (40), 3) := by decide +kernel
theorem d_M_act_34 : decode (mC m_M_act) 34 = .ok (.aload_n 0, 1) := by decide +kernel
theorem d_M_act_35 : decode (mC m_M_act) 35 = .ok (.getfield 101, 3) := by decide +kernel
theorem d_M_act_38 : decode (mC m_M_act) 38 = .ok (.iload_n 1, 1) := by decide +kernel
theorem d_M_act_39 : decode (mC m_M_act) 39 = .ok (.iaload, 1) := by decide +kernel
theorem d_M_act_40 : decode (mC m_M_act) 40 = .ok (.iconst (-1), 1) := by decide +kernel
theorem d_M_act_41 : decode (mC m_M_act) 41 = .ok (.if_icmp .ne (30), 3) := by decide +kernel
theorem d_M_act_44 : decode (mC m_M_act) 44 = .ok (.aload_n 0, 1) := by decide +kernel
theorem d_M_act_45 : decode (mC m_M_act) 45 = .ok (.iload_n 1, 1) := by decide +kernel
theorem d_M_act_46 : decode (mC m_M_act) 46 = .ok (.invokevirtual 355, 3) := by decide +kernel
theorem d_M_act_49 : decode (mC m_M_act) 49 = .ok (.iconst 3, 1) := by decide +kernel
theorem d_M_act_50 : decode (mC m_M_act) 50 = .ok (.if_icmp .lt (21), 3) := by decide +kernel
theorem d_M_act_53 : decode (mC m_M_act) 53 = .ok (.aload_n 0, 1) := by decide +kernel
theorem d_M_act_54 : decode (mC m_M_act) 54 = .ok (.getfield 32, 3) := by decide +kernel
theorem d_M_act_57 : decode (mC m_M_act) 57 = .ok (.aload_n 0, 1) := by decide +kernel
theorem d_M_act_58 : decode (mC m_M_act) 58 = .ok (.getfield 92, 3) := by decide +kernel
theorem d_M_act_61 : decode (mC m_M_act) 61 = .ok (.iload_n 1, 1) := by decide +kernel
theorem d_M_act_62 : decode (mC m_M_act) 62 = .ok (.iaload, 1) := by decide +kernel
theorem d_M_act_63 : decode (mC m_M_act) 63 = .ok (.baload, 1) := by decide +kernel
theorem d_M_act_64 : decode (mC m_M_act) 64 = .ok (.ifCond .eq (7), 3) := by decide +kernel
theorem d_M_act_67 : decode (mC m_M_act) 67 = .ok (.iconst 1, 1) := by decide +kernel
theorem d_M_act_68 : decode (mC m_M_act) 68 = .ok (.goto (4), 3) := by decide +kernel
theorem d_M_act_71 : decode (mC m_M_act) 71 = .ok (.iconst 0, 1) := by decide +kernel
theorem d_M_act_72 : decode (mC m_M_act) 72 = .ok (.istore 4, 2) := by decide +kernel
theorem d_M_act_74 : decode (mC m_M_act) 74 = .ok (.iload 4, 2) := by decide +kernel
theorem d_M_act_76 : decode (mC m_M_act) 76 = .ok (.ifCond .eq (35), 3) := by decide +kernel
theorem d_M_act_79 : decode (mC m_M_act) 79 = .ok (.aload_n 0, 1) := by decide +kernel
theorem d_M_act_80 : decode (mC m_M_act) 80 = .ok (.getfield 92, 3) := by decide +kernel
theorem d_M_act_83 : decode (mC m_M_act) 83 = .ok (.iload_n 1, 1) := by decide +kernel
theorem d_M_act_84 : decode (mC m_M_act) 84 = .ok (.iaload, 1) := by decide +kernel
theorem d_M_act_85 : decode (mC m_M_act) 85 = .ok (.iload_n 2, 1) := by decide +kernel
theorem d_M_act_86 : decode (mC m_M_act) 86 = .ok (.if_icmp .eq (25), 3) := by decide +kernel
theorem d_M_act_89 : decode (mC m_M_act) 89 = .ok (.aload_n 0, 1) := by decide +kernel
theorem d_M_act_90 : decode (mC m_M_act) 90 = .ok (.getfield 29, 3) := by decide +kernel
theorem d_M_act_93 : decode (mC m_M_act) 93 = .ok (.iload_n 2, 1) := by decide +kernel
theorem d_M_act_94 : decode (mC m_M_act) 94 = .ok (.baload, 1) := by decide +kernel
theorem d_M_act_95 : decode (mC m_M_act) 95 = .ok (.ifCond .ne (16), 3) := by decide +kernel
theorem d_M_act_98 : decode (mC m_M_act) 98 = .ok (.aload_n 0, 1) := by decide +kernel
theorem d_M_act_99 : decode (mC m_M_act) 99 = .ok (.getfield 235, 3) := by decide +kernel
theorem d_M_act_102 : decode (mC m_M_act) 102 = .ok (.bipush (60), 2) := by decide +kernel
theorem d_M_act_104 : decode (mC m_M_act) 104 = .ok (.if_icmp .ge (7), 3) := by decide +kernel
theorem d_M_act_107 : decode (mC m_M_act) 107 = .ok (.iconst 1, 1) := by decide +kernel
theorem d_M_act_108 : decode (mC m_M_act) 108 = .ok (.goto (4), 3) := by decide +kernel
theorem d_M_act_111 : decode (mC m_M_act) 111 = .ok (.iconst 0, 1) := by decide +kernel
theorem d_M_act_112 : decode (mC m_M_act) 112 = .ok (.istore 4, 2) := by decide +kernel
theorem d_M_act_114 : decode (mC m_M_act) 114 = .ok (.aload_n 0, 1) := by decide +kernel
theorem d_M_act_115 : decode (mC m_M_act) 115 = .ok (.iload_n 3, 1) := by decide +kernel
theorem d_M_act_116 : decode (mC m_M_act) 116 = .ok (.iload 4, 2) := by decide +kernel
theorem d_M_act_118 : decode (mC m_M_act) 118 = .ok (.invokevirtual 274, 3) := by decide +kernel
theorem d_M_act_121 : decode (mC m_M_act) 121 = .ok (.ifCond .ne (5), 3) := by decide +kernel
theorem d_M_act_124 : decode (mC m_M_act) 124 = .ok (.iconst 0, 1) := by decide +kernel
theorem d_M_act_125 : decode (mC m_M_act) 125 = .ok (.ireturn, 1) := by decide +kernel
theorem d_M_act_126 : decode (mC m_M_act) 126 = .ok (.aload_n 0, 1) := by decide +kernel
theorem d_M_act_127 : decode (mC m_M_act) 127 = .ok (.iload_n 2, 1) := by decide +kernel
theorem d_M_act_128 : decode (mC m_M_act) 128 = .ok (.iload_n 1, 1) := by decide +kernel
theorem d_M_act_129 : decode (mC m_M_act) 129 = .ok (.invokevirtual 328, 3) := by decide +kernel
theorem d_M_act_132 : decode (mC m_M_act) 132 = .ok (.istore 5, 2) := by decide +kernel
theorem d_M_act_134 : decode (mC m_M_act) 134 = .ok (.iconst 0, 1) := by decide +kernel
theorem d_M_act_135 : decode (mC m_M_act) 135 = .ok (.istore 6, 2) := by decide +kernel
theorem d_M_act_137 : decode (mC m_M_act) 137 = .ok (.iload 6, 2) := by decide +kernel
theorem d_M_act_139 : decode (mC m_M_act) 139 = .ok (.iconst 3, 1) := by decide +kernel
theorem d_M_act_140 : decode (mC m_M_act) 140 = .ok (.if_icmp .ge (32), 3) := by decide +kernel
theorem d_M_act_143 : decode (mC m_M_act) 143 = .ok (.aload_n 0, 1) := by decide +kernel
theorem d_M_act_144 : decode (mC m_M_act) 144 = .ok (.getfield 107, 3) := by decide +kernel
theorem d_M_act_147 : decode (mC m_M_act) 147 = .ok (.iconst 3, 1) := by decide +kernel
theorem d_M_act_148 : decode (mC m_M_act) 148 = .ok (.iload 5, 2) := by decide +kernel
theorem d_M_act_150 : decode (mC m_M_act) 150 = .ok (.imul, 1) := by decide +kernel
theorem d_M_act_151 : decode (mC m_M_act) 151 = .ok (.iload 6, 2) := by decide +kernel
theorem d_M_act_153 : decode (mC m_M_act) 153 = .ok (.iadd, 1) := by decide +kernel
theorem d_M_act_154 : decode (mC m_M_act) 154 = .ok (.aload_n 0, 1) := by decide +kernel
theorem d_M_act_155 : decode (mC m_M_act) 155 = .ok (.getfield 107, 3) := by decide +kernel
theorem d_M_act_158 : decode (mC m_M_act) 158 = .ok (.iconst 3, 1) := by decide +kernel
theorem d_M_act_159 : decode (mC m_M_act) 159 = .ok (.iload_n 1, 1) := by decide +kernel
theorem d_M_act_160 : decode (mC m_M_act) 160 = .ok (.imul, 1) := by decide +kernel
theorem d_M_act_161 : decode (mC m_M_act) 161 = .ok (.iload 6, 2) := by decide +kernel
theorem d_M_act_163 : decode (mC m_M_act) 163 = .ok (.iadd, 1) := by decide +kernel
theorem d_M_act_164 : decode (mC m_M_act) 164 = .ok (.iaload, 1) := by decide +kernel
theorem d_M_act_165 : decode (mC m_M_act) 165 = .ok (.iastore, 1) := by decide +kernel
theorem d_M_act_166 : decode (mC m_M_act) 166 = .ok (.iinc 6 (1), 3) := by decide +kernel
theorem d_M_act_169 : decode (mC m_M_act) 169 = .ok (.goto (-32), 3) := by decide +kernel
theorem d_M_act_172 : decode (mC m_M_act) 172 = .ok (.iload 5, 2) := by decide +kernel
theorem d_M_act_174 : decode (mC m_M_act) 174 = .ok (.ireturn, 1) := by decide +kernel
theorem d_K_consent_0 : decode (mC m_K_consent) 0 = .ok (.iload_n 1, 1) := by decide +kernel
theorem d_K_consent_1 : decode (mC m_K_consent) 1 = .ok (.iconst (-1), 1) := by decide +kernel
theorem d_K_consent_2 : decode (mC m_K_consent) 2 = .ok (.if_icmp .ne (10), 3) := by decide +kernel
theorem d_K_consent_5 : decode (mC m_K_consent) 5 = .ok (.aload_n 0, 1) := by decide +kernel
theorem d_K_consent_6 : decode (mC m_K_consent) 6 = .ok (.getfield 49, 3) := by decide +kernel
theorem d_K_consent_9 : decode (mC m_K_consent) 9 = .ok (.goto (11), 3) := by decide +kernel
theorem d_K_consent_12 : decode (mC m_K_consent) 12 = .ok (.aload_n 0, 1) := by decide +kernel
theorem d_K_consent_13 : decode (mC m_K_consent) 13 = .ok (.iload_n 1, 1) := by decide +kernel
theorem d_K_consent_14 : decode (mC m_K_consent) 14 = .ok (.invokevirtual 108, 3) := by decide +kernel
theorem d_K_consent_17 : decode (mC m_K_consent) 17 = .ok (.getfield 253, 3) := by decide +kernel
theorem d_K_consent_20 : decode (mC m_K_consent) 20 = .ok (.astore 4, 2) := by decide +kernel
theorem d_K_consent_22 : decode (mC m_K_consent) 22 = .ok (.iload_n 2, 1) := by decide +kernel
theorem d_K_consent_23 : decode (mC m_K_consent) 23 = .ok (.aload 4, 2) := by decide +kernel
theorem d_K_consent_25 : decode (mC m_K_consent) 25 = .ok (.arraylength, 1) := by decide +kernel
theorem d_K_consent_26 : decode (mC m_K_consent) 26 = .ok (.invokestatic 148, 3) := by decide +kernel
theorem d_K_consent_29 : decode (mC m_K_consent) 29 = .ok (.iload_n 3, 1) := by decide +kernel
theorem d_K_consent_30 : decode (mC m_K_consent) 30 = .ok (.iconst 0, 1) := by decide +kernel
theorem d_K_consent_31 : decode (mC m_K_consent) 31 = .ok (.bipush (15), 2) := by decide +kernel
theorem d_K_consent_33 : decode (mC m_K_consent) 33 = .ok (.invokestatic 84, 3) := by decide +kernel
theorem d_K_consent_36 : decode (mC m_K_consent) 36 = .ok (.invokestatic 88, 3) := by decide +kernel
theorem d_K_consent_39 : decode (mC m_K_consent) 39 = .ok (.aload 4, 2) := by decide +kernel
theorem d_K_consent_41 : decode (mC m_K_consent) 41 = .ok (.iload_n 2, 1) := by decide +kernel
theorem d_K_consent_42 : decode (mC m_K_consent) 42 = .ok (.dup2, 1) := by decide +kernel
theorem d_K_consent_43 : decode (mC m_K_consent) 43 = .ok (.iaload, 1) := by decide +kernel
theorem d_K_consent_44 : decode (mC m_K_consent) 44 = .ok (.iload_n 3, 1) := by decide +kernel
theorem d_K_consent_45 : decode (mC m_K_consent) 45 = .ok (.ior, 1) := by decide +kernel
theorem d_K_consent_46 : decode (mC m_K_consent) 46 = .ok (.iastore, 1) := by decide +kernel
theorem d_K_consent_47 : decode (mC m_K_consent) 47 = .ok (.aload 4, 2) := by decide +kernel
theorem d_K_consent_49 : decode (mC m_K_consent) 49 = .ok (.iload_n 2, 1) := by decide +kernel
theorem d_K_consent_50 : decode (mC m_K_consent) 50 = .ok (.iaload, 1) := by decide +kernel
theorem d_K_consent_51 : decode (mC m_K_consent) 51 = .ok (.ireturn, 1) := by decide +kernel
theorem d_W_consent_0 : decode (mC m_W_consent) 0 = .ok (.aload 4, 2) := by decide +kernel
theorem d_W_consent_2 : decode (mC m_W_consent) 2 = .ok (.iconst 0, 1) := by decide +kernel
theorem d_W_consent_3 : decode (mC m_W_consent) 3 = .ok (.aload_n 0, 1) := by decide +kernel
theorem d_W_consent_4 : decode (mC m_W_consent) 4 = .ok (.iload_n 1, 1) := by decide +kernel
theorem d_W_consent_5 : decode (mC m_W_consent) 5 = .ok (.iload_n 2, 1) := by decide +kernel
theorem d_W_consent_6 : decode (mC m_W_consent) 6 = .ok (.iload_n 3, 1) := by decide +kernel
theorem d_W_consent_7 : decode (mC m_W_consent) 7 = .ok (.invokevirtual 87, 3) := by decide +kernel
theorem d_W_consent_10 : decode (mC m_W_consent) 10 = .ok (.i2l, 1) := by decide +kernel
theorem d_W_consent_11 : decode (mC m_W_consent) 11 = .ok (.lastore, 1) := by decide +kernel
theorem d_W_consent_12 : decode (mC m_W_consent) 12 = .ok (.goto (11), 3) := by decide +kernel
theorem d_W_consent_15 : decode (mC m_W_consent) 15 = .ok (.astore 5, 2) := by decide +kernel
theorem d_W_consent_17 : decode (mC m_W_consent) 17 = .ok (.iconst 1, 1) := by decide +kernel
theorem d_W_consent_18 : decode (mC m_W_consent) 18 = .ok (.ireturn, 1) := by decide +kernel
theorem d_W_consent_19 : decode (mC m_W_consent) 19 = .ok (.astore 5, 2) := by decide +kernel
theorem d_W_consent_21 : decode (mC m_W_consent) 21 = .ok (.iconst 2, 1) := by decide +kernel
theorem d_W_consent_22 : decode (mC m_W_consent) 22 = .ok (.ireturn, 1) := by decide +kernel
theorem d_W_consent_23 : decode (mC m_W_consent) 23 = .ok (.iconst 0, 1) := by decide +kernel
theorem d_W_consent_24 : decode (mC m_W_consent) 24 = .ok (.ireturn, 1) := by decide +kernel
theorem d_M_isService_0 : decode (mC m_M_isService) 0 = .ok (.iload_n 0, 1) := by decide +kernel
theorem d_M_isService_1 : decode (mC m_M_isService) 1 = .ok (.iconst 0, 1) := by decide +kernel
theorem d_M_isService_2 : decode (mC m_M_isService) 2 = .ok (.iconst 3, 1) := by decide +kernel
theorem d_M_isService_3 : decode (mC m_M_isService) 3 = .ok (.invokestatic 228, 3) := by decide +kernel
theorem d_M_isService_6 : decode (mC m_M_isService) 6 = .ok (.ireturn, 1) := by decide +kernel
theorem d_M_consent_0 : decode (mC m_M_consent) 0 = .ok (.iload_n 1, 1) := by decide +kernel
theorem d_M_consent_1 : decode (mC m_M_consent) 1 = .ok (.iconst (-1), 1) := by decide +kernel
theorem d_M_consent_2 : decode (mC m_M_consent) 2 = .ok (.iconst 5, 1) := by decide +kernel
theorem d_M_consent_3 : decode (mC m_M_consent) 3 = .ok (.invokestatic 228, 3) := by decide +kernel
theorem d_M_consent_6 : decode (mC m_M_consent) 6 = .ok (.ifCond .eq (14), 3) := by decide +kernel
theorem d_M_consent_9 : decode (mC m_M_consent) 9 = .ok (.iload_n 2, 1) := by decide +kernel
theorem d_M_consent_10 : decode (mC m_M_consent) 10 = .ok (.invokestatic 358, 3) := by decide +kernel
theorem d_M_consent_13 : decode (mC m_M_consent) 13 = .ok (.ifCond .eq (7), 3) := by decide +kernel
theorem d_M_consent_16 : decode (mC m_M_consent) 16 = .ok (.iconst 1, 1) := by decide +kernel
theorem d_M_consent_17 : decode (mC m_M_consent) 17 = .ok (.goto (4), 3) := by decide +kernel
theorem d_M_consent_20 : decode (mC m_M_consent) 20 = .ok (.iconst 0, 1) := by decide +kernel
theorem d_M_consent_21 : decode (mC m_M_consent) 21 = .ok (.istore 4, 2) := by decide +kernel
theorem d_M_consent_23 : decode (mC m_M_consent) 23 = .ok (.aload_n 0, 1) := by decide +kernel
theorem d_M_consent_24 : decode (mC m_M_consent) 24 = .ok (.iload 4, 2) := by decide +kernel
theorem d_M_consent_26 : decode (mC m_M_consent) 26 = .ok (.iload_n 3, 1) := by decide +kernel
theorem d_M_consent_27 : decode (mC m_M_consent) 27 = .ok (.iconst 0, 1) := by decide +kernel
theorem d_M_consent_28 : decode (mC m_M_consent) 28 = .ok (.bipush (15), 2) := by decide +kernel
theorem d_M_consent_30 : decode (mC m_M_consent) 30 = .ok (.invokestatic 228, 3) := by decide +kernel
theorem d_M_consent_33 : decode (mC m_M_consent) 33 = .ok (.invokevirtual 274, 3) := by decide +kernel
theorem d_M_consent_36 : decode (mC m_M_consent) 36 = .ok (.ifCond .ne (5), 3) := by decide +kernel
theorem d_M_consent_39 : decode (mC m_M_consent) 39 = .ok (.iconst 0, 1) := by decide +kernel
theorem d_M_consent_40 : decode (mC m_M_consent) 40 = .ok (.ireturn, 1) := by decide +kernel
theorem d_M_consent_41 : decode (mC m_M_consent) 41 = .ok (.iconst 4, 1) := by decide +kernel
theorem d_M_consent_42 : decode (mC m_M_consent) 42 = .ok (.iload_n 1, 1) := by decide +kernel
theorem d_M_consent_43 : decode (mC m_M_consent) 43 = .ok (.iconst (-1), 1) := by decide +kernel
theorem d_M_consent_44 : decode (mC m_M_consent) 44 = .ok (.if_icmp .ne (8), 3) := by decide +kernel
theorem d_M_consent_47 : decode (mC m_M_consent) 47 = .ok (.bipush (6), 2) := by decide +kernel
theorem d_M_consent_49 : decode (mC m_M_consent) 49 = .ok (.goto (4), 3) := by decide +kernel
theorem d_M_consent_52 : decode (mC m_M_consent) 52 = .ok (.iload_n 1, 1) := by decide +kernel
theorem d_M_consent_53 : decode (mC m_M_consent) 53 = .ok (.imul, 1) := by decide +kernel
theorem d_M_consent_54 : decode (mC m_M_consent) 54 = .ok (.iload_n 2, 1) := by decide +kernel
theorem d_M_consent_55 : decode (mC m_M_consent) 55 = .ok (.iadd, 1) := by decide +kernel
theorem d_M_consent_56 : decode (mC m_M_consent) 56 = .ok (.istore 5, 2) := by decide +kernel
theorem d_M_consent_58 : decode (mC m_M_consent) 58 = .ok (.aload_n 0, 1) := by decide +kernel
theorem d_M_consent_59 : decode (mC m_M_consent) 59 = .ok (.getfield 110, 3) := by decide +kernel
theorem d_M_consent_62 : decode (mC m_M_consent) 62 = .ok (.iload 5, 2) := by decide +kernel
theorem d_M_consent_64 : decode (mC m_M_consent) 64 = .ok (.dup2, 1) := by decide +kernel
theorem d_M_consent_65 : decode (mC m_M_consent) 65 = .ok (.iaload, 1) := by decide +kernel
theorem d_M_consent_66 : decode (mC m_M_consent) 66 = .ok (.iload_n 3, 1) := by decide +kernel
theorem d_M_consent_67 : decode (mC m_M_consent) 67 = .ok (.ior, 1) := by decide +kernel
theorem d_M_consent_68 : decode (mC m_M_consent) 68 = .ok (.iastore, 1) := by decide +kernel
theorem d_M_consent_69 : decode (mC m_M_consent) 69 = .ok (.aload_n 0, 1) := by decide +kernel
theorem d_M_consent_70 : decode (mC m_M_consent) 70 = .ok (.getfield 110, 3) := by decide +kernel
theorem d_M_consent_73 : decode (mC m_M_consent) 73 = .ok (.iload 5, 2) := by decide +kernel
theorem d_M_consent_75 : decode (mC m_M_consent) 75 = .ok (.iaload, 1) := by decide +kernel
theorem d_M_consent_76 : decode (mC m_M_consent) 76 = .ok (.ireturn, 1) := by decide +kernel
theorem d_K_withdraw_0 : decode (mC m_K_withdraw) 0 = .ok (.aload_n 0, 1) := by decide +kernel
theorem d_K_withdraw_1 : decode (mC m_K_withdraw) 1 = .ok (.iload_n 1, 1) := by decide +kernel
theorem d_K_withdraw_2 : decode (mC m_K_withdraw) 2 = .ok (.invokevirtual 108, 3) := by decide +kernel
theorem d_K_withdraw_5 : decode (mC m_K_withdraw) 5 = .ok (.astore_n 3, 1) := by decide +kernel
theorem d_K_withdraw_6 : decode (mC m_K_withdraw) 6 = .ok (.iload_n 2, 1) := by decide +kernel
theorem d_K_withdraw_7 : decode (mC m_K_withdraw) 7 = .ok (.aload_n 3, 1) := by decide +kernel
theorem d_K_withdraw_8 : decode (mC m_K_withdraw) 8 = .ok (.getfield 253, 3) := by decide +kernel
theorem d_K_withdraw_11 : decode (mC m_K_withdraw) 11 = .ok (.arraylength, 1) := by decide +kernel
theorem d_K_withdraw_12 : decode (mC m_K_withdraw) 12 = .ok (.invokestatic 148, 3) := by decide +kernel
theorem d_K_withdraw_15 : decode (mC m_K_withdraw) 15 = .ok (.aload_n 3, 1) := by decide +kernel
theorem d_K_withdraw_16 : decode (mC m_K_withdraw) 16 = .ok (.getfield 253, 3) := by decide +kernel
theorem d_K_withdraw_19 : decode (mC m_K_withdraw) 19 = .ok (.iload_n 2, 1) := by decide +kernel
theorem d_K_withdraw_20 : decode (mC m_K_withdraw) 20 = .ok (.iconst 0, 1) := by decide +kernel
theorem d_K_withdraw_21 : decode (mC m_K_withdraw) 21 = .ok (.iastore, 1) := by decide +kernel
theorem d_K_withdraw_22 : decode (mC m_K_withdraw) 22 = .ok (.iconst 0, 1) := by decide +kernel
theorem d_K_withdraw_23 : decode (mC m_K_withdraw) 23 = .ok (.istore 4, 2) := by decide +kernel
theorem d_K_withdraw_25 : decode (mC m_K_withdraw) 25 = .ok (.iconst 0, 1) := by decide +kernel
theorem d_K_withdraw_26 : decode (mC m_K_withdraw) 26 = .ok (.istore 5, 2) := by decide +kernel
theorem d_K_withdraw_28 : decode (mC m_K_withdraw) 28 = .ok (.iload 5, 2) := by decide +kernel
theorem d_K_withdraw_30 : decode (mC m_K_withdraw) 30 = .ok (.aload_n 0, 1) := by decide +kernel
theorem d_K_withdraw_31 : decode (mC m_K_withdraw) 31 = .ok (.getfield 61, 3) := by decide +kernel
theorem d_K_withdraw_34 : decode (mC m_K_withdraw) 34 = .ok (.invokevirtual 134, 3) := by decide +kernel
theorem d_K_withdraw_37 : decode (mC m_K_withdraw) 37 = .ok (.if_icmp .ge (61), 3) := by decide +kernel
theorem d_K_withdraw_40 : decode (mC m_K_withdraw) 40 = .ok (.aload_n 0, 1) := by decide +kernel
theorem d_K_withdraw_41 : decode (mC m_K_withdraw) 41 = .ok (.getfield 61, 3) := by decide +kernel
theorem d_K_withdraw_44 : decode (mC m_K_withdraw) 44 = .ok (.iload 5, 2) := by decide +kernel
theorem d_K_withdraw_46 : decode (mC m_K_withdraw) 46 = .ok (.invokevirtual 152, 3) := by decide +kernel
theorem d_K_withdraw_49 : decode (mC m_K_withdraw) 49 = .ok (.checkcast 256, 3) := by decide +kernel
theorem d_K_withdraw_52 : decode (mC m_K_withdraw) 52 = .ok (.astore 6, 2) := by decide +kernel
theorem d_K_withdraw_54 : decode (mC m_K_withdraw) 54 = .ok (.aload 6, 2) := by decide +kernel
theorem d_K_withdraw_56 : decode (mC m_K_withdraw) 56 = .ok (.getfield 258, 3) := by decide +kernel
theorem d_K_withdraw_59 : decode (mC m_K_withdraw) 59 = .ok (.ifCond .eq (33), 3) := by decide +kernel
theorem d_K_withdraw_62 : decode (mC m_K_withdraw) 62 = .ok (.aload 6, 2) := by decide +kernel
theorem d_K_withdraw_64 : decode (mC m_K_withdraw) 64 = .ok (.getfield 261, 3) := by decide +kernel
theorem d_K_withdraw_67 : decode (mC m_K_withdraw) 67 = .ok (.getfield 225, 3) := by decide +kernel
theorem d_K_withdraw_70 : decode (mC m_K_withdraw) 70 = .ok (.aload_n 3, 1) := by decide +kernel
theorem d_K_withdraw_71 : decode (mC m_K_withdraw) 71 = .ok (.if_acmp .ne (21), 3) := by decide +kernel
theorem d_K_withdraw_74 : decode (mC m_K_withdraw) 74 = .ok (.aload 6, 2) := by decide +kernel
theorem d_K_withdraw_76 : decode (mC m_K_withdraw) 76 = .ok (.getfield 263, 3) := by decide +kernel
theorem d_K_withdraw_79 : decode (mC m_K_withdraw) 79 = .ok (.iload_n 2, 1) := by decide +kernel
theorem d_K_withdraw_80 : decode (mC m_K_withdraw) 80 = .ok (.if_icmp .ne (12), 3) := by decide +kernel
theorem d_K_withdraw_83 : decode (mC m_K_withdraw) 83 = .ok (.aload_n 0, 1) := by decide +kernel
theorem d_K_withdraw_84 : decode (mC m_K_withdraw) 84 = .ok (.aload 6, 2) := by decide +kernel
theorem d_K_withdraw_86 : decode (mC m_K_withdraw) 86 = .ok (.invokevirtual 266, 3) := by decide +kernel
theorem d_K_withdraw_89 : decode (mC m_K_withdraw) 89 = .ok (.iinc 4 (1), 3) := by decide +kernel
theorem d_K_withdraw_92 : decode (mC m_K_withdraw) 92 = .ok (.iinc 5 (1), 3) := by decide +kernel
theorem d_K_withdraw_95 : decode (mC m_K_withdraw) 95 = .ok (.goto (-67), 3) := by decide +kernel
theorem d_K_withdraw_98 : decode (mC m_K_withdraw) 98 = .ok (.iload 4, 2) := by decide +kernel
theorem d_K_withdraw_100 : decode (mC m_K_withdraw) 100 = .ok (.ireturn, 1) := by decide +kernel
theorem d_W_withdraw_0 : decode (mC m_W_withdraw) 0 = .ok (.aload_n 3, 1) := by decide +kernel
theorem d_W_withdraw_1 : decode (mC m_W_withdraw) 1 = .ok (.iconst 0, 1) := by decide +kernel
theorem d_W_withdraw_2 : decode (mC m_W_withdraw) 2 = .ok (.aload_n 0, 1) := by decide +kernel
theorem d_W_withdraw_3 : decode (mC m_W_withdraw) 3 = .ok (.iload_n 1, 1) := by decide +kernel
theorem d_W_withdraw_4 : decode (mC m_W_withdraw) 4 = .ok (.iload_n 2, 1) := by decide +kernel
theorem d_W_withdraw_5 : decode (mC m_W_withdraw) 5 = .ok (.invokevirtual 90, 3) := by decide +kernel
theorem d_W_withdraw_8 : decode (mC m_W_withdraw) 8 = .ok (.i2l, 1) := by decide +kernel
theorem d_W_withdraw_9 : decode (mC m_W_withdraw) 9 = .ok (.lastore, 1) := by decide +kernel
theorem d_W_withdraw_10 : decode (mC m_W_withdraw) 10 = .ok (.goto (7), 3) := by decide +kernel
theorem d_W_withdraw_13 : decode (mC m_W_withdraw) 13 = .ok (.astore 4, 2) := by decide +kernel
theorem d_W_withdraw_15 : decode (mC m_W_withdraw) 15 = .ok (.iconst 1, 1) := by decide +kernel
theorem d_W_withdraw_16 : decode (mC m_W_withdraw) 16 = .ok (.ireturn, 1) := by decide +kernel
theorem d_W_withdraw_17 : decode (mC m_W_withdraw) 17 = .ok (.iconst 0, 1) := by decide +kernel
theorem d_W_withdraw_18 : decode (mC m_W_withdraw) 18 = .ok (.ireturn, 1) := by decide +kernel
theorem d_M_withdraw_0 : decode (mC m_M_withdraw) 0 = .ok (.aload_n 0, 1) := by decide +kernel
theorem d_M_withdraw_1 : decode (mC m_M_withdraw) 1 = .ok (.iload_n 1, 1) := by decide +kernel
theorem d_M_withdraw_2 : decode (mC m_M_withdraw) 2 = .ok (.invokestatic 284, 3) := by decide +kernel
theorem d_M_withdraw_5 : decode (mC m_M_withdraw) 5 = .ok (.ifCond .eq (14), 3) := by decide +kernel
theorem d_M_withdraw_8 : decode (mC m_M_withdraw) 8 = .ok (.iload_n 2, 1) := by decide +kernel
theorem d_M_withdraw_9 : decode (mC m_M_withdraw) 9 = .ok (.invokestatic 358, 3) := by decide +kernel
theorem d_M_withdraw_12 : decode (mC m_M_withdraw) 12 = .ok (.ifCond .eq (7), 3) := by decide +kernel
theorem d_M_withdraw_15 : decode (mC m_M_withdraw) 15 = .ok (.iconst 1, 1) := by decide +kernel
theorem d_M_withdraw_16 : decode (mC m_M_withdraw) 16 = .ok (.goto (4), 3) := by decide +kernel
theorem d_M_withdraw_19 : decode (mC m_M_withdraw) 19 = .ok (.iconst 0, 1) := by decide +kernel
theorem d_M_withdraw_20 : decode (mC m_M_withdraw) 20 = .ok (.invokevirtual 251, 3) := by decide +kernel
theorem d_M_withdraw_23 : decode (mC m_M_withdraw) 23 = .ok (.ifCond .ne (5), 3) := by decide +kernel
theorem d_M_withdraw_26 : decode (mC m_M_withdraw) 26 = .ok (.iconst 0, 1) := by decide +kernel
theorem d_M_withdraw_27 : decode (mC m_M_withdraw) 27 = .ok (.ireturn, 1) := by decide +kernel
theorem d_M_withdraw_28 : decode (mC m_M_withdraw) 28 = .ok (.aload_n 0, 1) := by decide +kernel
theorem d_M_withdraw_29 : decode (mC m_M_withdraw) 29 = .ok (.getfield 110, 3) := by decide +kernel
theorem d_M_withdraw_32 : decode (mC m_M_withdraw) 32 = .ok (.iconst 4, 1) := by decide +kernel
theorem d_M_withdraw_33 : decode (mC m_M_withdraw) 33 = .ok (.iload_n 1, 1) := by decide +kernel
theorem d_M_withdraw_34 : decode (mC m_M_withdraw) 34 = .ok (.imul, 1) := by decide +kernel
theorem d_M_withdraw_35 : decode (mC m_M_withdraw) 35 = .ok (.iload_n 2, 1) := by decide +kernel
theorem d_M_withdraw_36 : decode (mC m_M_withdraw) 36 = .ok (.iadd, 1) := by decide +kernel
theorem d_M_withdraw_37 : decode (mC m_M_withdraw) 37 = .ok (.iconst 0, 1) := by decide +kernel
theorem d_M_withdraw_38 : decode (mC m_M_withdraw) 38 = .ok (.iastore, 1) := by decide +kernel
theorem d_M_withdraw_39 : decode (mC m_M_withdraw) 39 = .ok (.iconst 0, 1) := by decide +kernel
theorem d_M_withdraw_40 : decode (mC m_M_withdraw) 40 = .ok (.istore_n 3, 1) := by decide +kernel
theorem d_M_withdraw_41 : decode (mC m_M_withdraw) 41 = .ok (.iconst 0, 1) := by decide +kernel
theorem d_M_withdraw_42 : decode (mC m_M_withdraw) 42 = .ok (.istore 4, 2) := by decide +kernel
theorem d_M_withdraw_44 : decode (mC m_M_withdraw) 44 = .ok (.iload 4, 2) := by decide +kernel
theorem d_M_withdraw_46 : decode (mC m_M_withdraw) 46 = .ok (.aload_n 0, 1) := by decide +kernel
theorem d_M_withdraw_47 : decode (mC m_M_withdraw) 47 = .ok (.getfield 238, 3) := by decide +kernel
theorem d_M_withdraw_50 : decode (mC m_M_withdraw) 50 = .ok (.if_icmp .ge (87), 3) := by decide +kernel
theorem d_M_withdraw_53 : decode (mC m_M_withdraw) 53 = .ok (.aload_n 0, 1) := by decide +kernel
theorem d_M_withdraw_54 : decode (mC m_M_withdraw) 54 = .ok (.getfield 146, 3) := by decide +kernel
theorem d_M_withdraw_57 : decode (mC m_M_withdraw) 57 = .ok (.iload 4, 2) := by decide +kernel
theorem d_M_withdraw_59 : decode (mC m_M_withdraw) 59 = .ok (.baload, 1) := by decide +kernel
theorem d_M_withdraw_60 : decode (mC m_M_withdraw) 60 = .ok (.ifCond .eq (44), 3) := by decide +kernel
theorem d_M_withdraw_63 : decode (mC m_M_withdraw) 63 = .ok (.aload_n 0, 1) := by decide +kernel
theorem d_M_withdraw_64 : decode (mC m_M_withdraw) 64 = .ok (.getfield 92, 3) := by decide +kernel
theorem d_M_withdraw_67 : decode (mC m_M_withdraw) 67 = .ok (.aload_n 0, 1) := by decide +kernel
theorem d_M_withdraw_68 : decode (mC m_M_withdraw) 68 = .ok (.getfield 116, 3) := by decide +kernel
theorem d_M_withdraw_71 : decode (mC m_M_withdraw) 71 = .ok (.aload_n 0, 1) := by decide +kernel
theorem d_M_withdraw_72 : decode (mC m_M_withdraw) 72 = .ok (.getfield 134, 3) := by decide +kernel
theorem d_M_withdraw_75 : decode (mC m_M_withdraw) 75 = .ok (.iload 4, 2) := by decide +kernel
theorem d_M_withdraw_77 : decode (mC m_M_withdraw) 77 = .ok (.iaload, 1) := by decide +kernel
theorem d_M_withdraw_78 : decode (mC m_M_withdraw) 78 = .ok (.iaload, 1) := by decide +kernel
theorem d_M_withdraw_79 : decode (mC m_M_withdraw) 79 = .ok (.iaload, 1) := by decide +kernel
theorem d_M_withdraw_80 : decode (mC m_M_withdraw) 80 = .ok (.iload_n 1, 1) := by decide +kernel
theorem d_M_withdraw_81 : decode (mC m_M_withdraw) 81 = .ok (.if_icmp .ne (23), 3) := by decide +kernel
theorem d_M_withdraw_84 : decode (mC m_M_withdraw) 84 = .ok (.aload_n 0, 1) := by decide +kernel
theorem d_M_withdraw_85 : decode (mC m_M_withdraw) 85 = .ok (.getfield 119, 3) := by decide +kernel
theorem d_M_withdraw_88 : decode (mC m_M_withdraw) 88 = .ok (.aload_n 0, 1) := by decide +kernel
theorem d_M_withdraw_89 : decode (mC m_M_withdraw) 89 = .ok (.getfield 134, 3) := by decide +kernel
theorem d_M_withdraw_92 : decode (mC m_M_withdraw) 92 = .ok (.iload 4, 2) := by decide +kernel
theorem d_M_withdraw_94 : decode (mC m_M_withdraw) 94 = .ok (.iaload, 1) := by decide +kernel
theorem d_M_withdraw_95 : decode (mC m_M_withdraw) 95 = .ok (.iaload, 1) := by decide +kernel
theorem d_M_withdraw_96 : decode (mC m_M_withdraw) 96 = .ok (.iload_n 2, 1) := by decide +kernel
theorem d_M_withdraw_97 : decode (mC m_M_withdraw) 97 = .ok (.if_icmp .ne (7), 3) := by decide +kernel
theorem d_M_withdraw_100 : decode (mC m_M_withdraw) 100 = .ok (.iconst 1, 1) := by decide +kernel
theorem d_M_withdraw_101 : decode (mC m_M_withdraw) 101 = .ok (.goto (4), 3) := by decide +kernel
theorem d_M_withdraw_104 : decode (mC m_M_withdraw) 104 = .ok (.iconst 0, 1) := by decide +kernel
theorem d_M_withdraw_105 : decode (mC m_M_withdraw) 105 = .ok (.istore 5, 2) := by decide +kernel
theorem d_M_withdraw_107 : decode (mC m_M_withdraw) 107 = .ok (.iload_n 3, 1) := by decide +kernel
theorem d_M_withdraw_108 : decode (mC m_M_withdraw) 108 = .ok (.iload 5, 2) := by decide +kernel
theorem d_M_withdraw_110 : decode (mC m_M_withdraw) 110 = .ok (.ifCond .eq (7), 3) := by decide +kernel
theorem d_M_withdraw_113 : decode (mC m_M_withdraw) 113 = .ok (.iconst 1, 1) := by decide +kernel
theorem d_M_withdraw_114 : decode (mC m_M_withdraw) 114 = .ok (.goto (4), 3) := by decide +kernel
theorem d_M_withdraw_117 : decode (mC m_M_withdraw) 117 = .ok (.iconst 0, 1) := by decide +kernel
theorem d_M_withdraw_118 : decode (mC m_M_withdraw) 118 = .ok (.iadd, 1) := by decide +kernel
theorem d_M_withdraw_119 : decode (mC m_M_withdraw) 119 = .ok (.istore_n 3, 1) := by decide +kernel
theorem d_M_withdraw_120 : decode (mC m_M_withdraw) 120 = .ok (.iload 5, 2) := by decide +kernel
theorem d_M_withdraw_122 : decode (mC m_M_withdraw) 122 = .ok (.ifCond .eq (9), 3) := by decide +kernel
theorem d_M_withdraw_125 : decode (mC m_M_withdraw) 125 = .ok (.aload_n 0, 1) := by decide +kernel
theorem d_M_withdraw_126 : decode (mC m_M_withdraw) 126 = .ok (.iload 4, 2) := by decide +kernel
theorem d_M_withdraw_128 : decode (mC m_M_withdraw) 128 = .ok (.invokevirtual 263, 3) := by decide +kernel
theorem d_M_withdraw_131 : decode (mC m_M_withdraw) 131 = .ok (.iinc 4 (1), 3) := by decide +kernel
theorem d_M_withdraw_134 : decode (mC m_M_withdraw) 134 = .ok (.goto (-90), 3) := by decide +kernel
theorem d_M_withdraw_137 : decode (mC m_M_withdraw) 137 = .ok (.iload_n 3, 1) := by decide +kernel
theorem d_M_withdraw_138 : decode (mC m_M_withdraw) 138 = .ok (.ireturn, 1) := by decide +kernel
theorem d_K_need_0 : decode (mC m_K_need) 0 = .ok (.aload_n 0, 1) := by decide +kernel
theorem d_K_need_1 : decode (mC m_K_need) 1 = .ok (.iload_n 1, 1) := by decide +kernel
theorem d_K_need_2 : decode (mC m_K_need) 2 = .ok (.invokevirtual 270, 3) := by decide +kernel
theorem d_K_need_5 : decode (mC m_K_need) 5 = .ok (.astore_n 3, 1) := by decide +kernel
theorem d_K_need_6 : decode (mC m_K_need) 6 = .ok (.iload_n 2, 1) := by decide +kernel
theorem d_K_need_7 : decode (mC m_K_need) 7 = .ok (.iconst 0, 1) := by decide +kernel
theorem d_K_need_8 : decode (mC m_K_need) 8 = .ok (.bipush (6), 2) := by decide +kernel
theorem d_K_need_10 : decode (mC m_K_need) 10 = .ok (.invokestatic 84, 3) := by decide +kernel
theorem d_K_need_13 : decode (mC m_K_need) 13 = .ok (.invokestatic 88, 3) := by decide +kernel
theorem d_K_need_16 : decode (mC m_K_need) 16 = .ok (.aload_n 3, 1) := by decide +kernel
theorem d_K_need_17 : decode (mC m_K_need) 17 = .ok (.getfield 274, 3) := by decide +kernel
theorem d_K_need_20 : decode (mC m_K_need) 20 = .ok (.istore 4, 2) := by decide +kernel
theorem d_K_need_22 : decode (mC m_K_need) 22 = .ok (.aload_n 3, 1) := by decide +kernel
theorem d_K_need_23 : decode (mC m_K_need) 23 = .ok (.iload_n 2, 1) := by decide +kernel
theorem d_K_need_24 : decode (mC m_K_need) 24 = .ok (.putfield 274, 3) := by decide +kernel
theorem d_K_need_27 : decode (mC m_K_need) 27 = .ok (.iload 4, 2) := by decide +kernel
theorem d_K_need_29 : decode (mC m_K_need) 29 = .ok (.ireturn, 1) := by decide +kernel
theorem d_W_need_0 : decode (mC m_W_need) 0 = .ok (.aload_n 3, 1) := by decide +kernel
theorem d_W_need_1 : decode (mC m_W_need) 1 = .ok (.iconst 0, 1) := by decide +kernel
theorem d_W_need_2 : decode (mC m_W_need) 2 = .ok (.aload_n 0, 1) := by decide +kernel
theorem d_W_need_3 : decode (mC m_W_need) 3 = .ok (.iload_n 1, 1) := by decide +kernel
theorem d_W_need_4 : decode (mC m_W_need) 4 = .ok (.iload_n 2, 1) := by decide +kernel
theorem d_W_need_5 : decode (mC m_W_need) 5 = .ok (.invokevirtual 93, 3) := by decide +kernel
theorem d_W_need_8 : decode (mC m_W_need) 8 = .ok (.i2l, 1) := by decide +kernel
theorem d_W_need_9 : decode (mC m_W_need) 9 = .ok (.lastore, 1) := by decide +kernel
theorem d_W_need_10 : decode (mC m_W_need) 10 = .ok (.goto (11), 3) := by decide +kernel
theorem d_W_need_13 : decode (mC m_W_need) 13 = .ok (.astore 4, 2) := by decide +kernel
theorem d_W_need_15 : decode (mC m_W_need) 15 = .ok (.iconst 1, 1) := by decide +kernel
theorem d_W_need_16 : decode (mC m_W_need) 16 = .ok (.ireturn, 1) := by decide +kernel
theorem d_W_need_17 : decode (mC m_W_need) 17 = .ok (.astore 4, 2) := by decide +kernel
theorem d_W_need_19 : decode (mC m_W_need) 19 = .ok (.iconst 2, 1) := by decide +kernel
theorem d_W_need_20 : decode (mC m_W_need) 20 = .ok (.ireturn, 1) := by decide +kernel
theorem d_W_need_21 : decode (mC m_W_need) 21 = .ok (.iconst 0, 1) := by decide +kernel
theorem d_W_need_22 : decode (mC m_W_need) 22 = .ok (.ireturn, 1) := by decide +kernel
theorem d_M_need_0 : decode (mC m_M_need) 0 = .ok (.aload_n 0, 1) := by decide +kernel
theorem d_M_need_1 : decode (mC m_M_need) 1 = .ok (.iload_n 1, 1) := by decide +kernel
theorem d_M_need_2 : decode (mC m_M_need) 2 = .ok (.invokestatic 358, 3) := by decide +kernel
theorem d_M_need_5 : decode (mC m_M_need) 5 = .ok (.iload_n 2, 1) := by decide +kernel
theorem d_M_need_6 : decode (mC m_M_need) 6 = .ok (.iconst 0, 1) := by decide +kernel
theorem d_M_need_7 : decode (mC m_M_need) 7 = .ok (.bipush (6), 2) := by decide +kernel
theorem d_M_need_9 : decode (mC m_M_need) 9 = .ok (.invokestatic 228, 3) := by decide +kernel
theorem d_M_need_12 : decode (mC m_M_need) 12 = .ok (.invokevirtual 274, 3) := by decide +kernel
theorem d_M_need_15 : decode (mC m_M_need) 15 = .ok (.ifCond .ne (5), 3) := by decide +kernel
theorem d_M_need_18 : decode (mC m_M_need) 18 = .ok (.iconst 0, 1) := by decide +kernel
theorem d_M_need_19 : decode (mC m_M_need) 19 = .ok (.ireturn, 1) := by decide +kernel
theorem d_M_need_20 : decode (mC m_M_need) 20 = .ok (.aload_n 0, 1) := by decide +kernel
theorem d_M_need_21 : decode (mC m_M_need) 21 = .ok (.getfield 113, 3) := by decide +kernel
theorem d_M_need_24 : decode (mC m_M_need) 24 = .ok (.iload_n 1, 1) := by decide +kernel
theorem d_M_need_25 : decode (mC m_M_need) 25 = .ok (.iaload, 1) := by decide +kernel
theorem d_M_need_26 : decode (mC m_M_need) 26 = .ok (.istore_n 3, 1) := by decide +kernel
theorem d_M_need_27 : decode (mC m_M_need) 27 = .ok (.aload_n 0, 1) := by decide +kernel
theorem d_M_need_28 : decode (mC m_M_need) 28 = .ok (.getfield 113, 3) := by decide +kernel
theorem d_M_need_31 : decode (mC m_M_need) 31 = .ok (.iload_n 1, 1) := by decide +kernel
theorem d_M_need_32 : decode (mC m_M_need) 32 = .ok (.iload_n 2, 1) := by decide +kernel
theorem d_M_need_33 : decode (mC m_M_need) 33 = .ok (.iastore, 1) := by decide +kernel
theorem d_M_need_34 : decode (mC m_M_need) 34 = .ok (.iload_n 3, 1) := by decide +kernel
theorem d_M_need_35 : decode (mC m_M_need) 35 = .ok (.ireturn, 1) := by decide +kernel
theorem d_K_consentedTo_0 : decode (mC m_K_consentedTo) 0 = .ok (.iload_n 2, 1) := by decide +kernel
theorem d_K_consentedTo_1 : decode (mC m_K_consentedTo) 1 = .ok (.ifCond .lt (21), 3) := by decide +kernel
theorem d_K_consentedTo_4 : decode (mC m_K_consentedTo) 4 = .ok (.iload_n 2, 1) := by decide +kernel
theorem d_K_consentedTo_5 : decode (mC m_K_consentedTo) 5 = .ok (.aload_n 0, 1) := by decide +kernel
theorem d_K_consentedTo_6 : decode (mC m_K_consentedTo) 6 = .ok (.getfield 49, 3) := by decide +kernel
theorem d_K_consentedTo_9 : decode (mC m_K_consentedTo) 9 = .ok (.arraylength, 1) := by decide +kernel
theorem d_K_consentedTo_10 : decode (mC m_K_consentedTo) 10 = .ok (.if_icmp .ge (12), 3) := by decide +kernel
theorem d_K_consentedTo_13 : decode (mC m_K_consentedTo) 13 = .ok (.iload_n 2, 1) := by decide +kernel
theorem d_K_consentedTo_14 : decode (mC m_K_consentedTo) 14 = .ok (.aload_n 1, 1) := by decide +kernel
theorem d_K_consentedTo_15 : decode (mC m_K_consentedTo) 15 = .ok (.getfield 253, 3) := by decide +kernel
theorem d_K_consentedTo_18 : decode (mC m_K_consentedTo) 18 = .ok (.arraylength, 1) := by decide +kernel
theorem d_K_consentedTo_19 : decode (mC m_K_consentedTo) 19 = .ok (.if_icmp .lt (5), 3) := by decide +kernel
theorem d_K_consentedTo_22 : decode (mC m_K_consentedTo) 22 = .ok (.iconst 0, 1) := by decide +kernel
theorem d_K_consentedTo_23 : decode (mC m_K_consentedTo) 23 = .ok (.ireturn, 1) := by decide +kernel
theorem d_K_consentedTo_24 : decode (mC m_K_consentedTo) 24 = .ok (.aload_n 0, 1) := by decide +kernel
theorem d_K_consentedTo_25 : decode (mC m_K_consentedTo) 25 = .ok (.getfield 49, 3) := by decide +kernel
theorem d_K_consentedTo_28 : decode (mC m_K_consentedTo) 28 = .ok (.iload_n 2, 1) := by decide +kernel
theorem d_K_consentedTo_29 : decode (mC m_K_consentedTo) 29 = .ok (.iaload, 1) := by decide +kernel
theorem d_K_consentedTo_30 : decode (mC m_K_consentedTo) 30 = .ok (.aload_n 1, 1) := by decide +kernel
theorem d_K_consentedTo_31 : decode (mC m_K_consentedTo) 31 = .ok (.getfield 253, 3) := by decide +kernel
theorem d_K_consentedTo_34 : decode (mC m_K_consentedTo) 34 = .ok (.iload_n 2, 1) := by decide +kernel
theorem d_K_consentedTo_35 : decode (mC m_K_consentedTo) 35 = .ok (.iaload, 1) := by decide +kernel
theorem d_K_consentedTo_36 : decode (mC m_K_consentedTo) 36 = .ok (.ior, 1) := by decide +kernel
theorem d_K_consentedTo_37 : decode (mC m_K_consentedTo) 37 = .ok (.ireturn, 1) := by decide +kernel
theorem d_Grant_init_0 : decode (mC m_Grant_init) 0 = .ok (.aload_n 0, 1) := by decide +kernel
theorem d_Grant_init_1 : decode (mC m_Grant_init) 1 = .ok (.invokespecial 3, 3) := by decide +kernel
theorem d_Grant_init_4 : decode (mC m_Grant_init) 4 = .ok (.aload_n 0, 1) := by decide +kernel
theorem d_Grant_init_5 : decode (mC m_Grant_init) 5 = .ok (.iconst (-1), 1) := by decide +kernel
theorem d_Grant_init_6 : decode (mC m_Grant_init) 6 = .ok (.putfield 9, 3) := by decide +kernel
theorem d_Grant_init_9 : decode (mC m_Grant_init) 9 = .ok (.aload_n 0, 1) := by decide +kernel
theorem d_Grant_init_10 : decode (mC m_Grant_init) 10 = .ok (.iconst (-1), 1) := by decide +kernel
theorem d_Grant_init_11 : decode (mC m_Grant_init) 11 = .ok (.putfield 15, 3) := by decide +kernel
theorem d_Grant_init_14 : decode (mC m_Grant_init) 14 = .ok (.aload_n 0, 1) := by decide +kernel
theorem d_Grant_init_15 : decode (mC m_Grant_init) 15 = .ok (.aload_n 1, 1) := by decide +kernel
theorem d_Grant_init_16 : decode (mC m_Grant_init) 16 = .ok (.putfield 18, 3) := by decide +kernel
theorem d_Grant_init_19 : decode (mC m_Grant_init) 19 = .ok (.aload_n 0, 1) := by decide +kernel
theorem d_Grant_init_20 : decode (mC m_Grant_init) 20 = .ok (.iload_n 2, 1) := by decide +kernel
theorem d_Grant_init_21 : decode (mC m_Grant_init) 21 = .ok (.putfield 22, 3) := by decide +kernel
theorem d_Grant_init_24 : decode (mC m_Grant_init) 24 = .ok (.aload_n 0, 1) := by decide +kernel
theorem d_Grant_init_25 : decode (mC m_Grant_init) 25 = .ok (.iload_n 3, 1) := by decide +kernel
theorem d_Grant_init_26 : decode (mC m_Grant_init) 26 = .ok (.putfield 25, 3) := by decide +kernel
theorem d_Grant_init_29 : decode (mC m_Grant_init) 29 = .ok (.aload_n 0, 1) := by decide +kernel
theorem d_Grant_init_30 : decode (mC m_Grant_init) 30 = .ok (.iload 4, 2) := by decide +kernel
theorem d_Grant_init_32 : decode (mC m_Grant_init) 32 = .ok (.putfield 28, 3) := by decide +kernel
theorem d_Grant_init_35 : decode (mC m_Grant_init) 35 = .ok (.aload_n 0, 1) := by decide +kernel
theorem d_Grant_init_36 : decode (mC m_Grant_init) 36 = .ok (.iload 5, 2) := by decide +kernel
theorem d_Grant_init_38 : decode (mC m_Grant_init) 38 = .ok (.putfield 31, 3) := by decide +kernel
theorem d_Grant_init_41 : decode (mC m_Grant_init) 41 = .ok (.return_, 1) := by decide +kernel
theorem d_K_authorize_0 : decode (mC m_K_authorize) 0 = .ok (.aload_n 0, 1) := by decide +kernel
theorem d_K_authorize_1 : decode (mC m_K_authorize) 1 = .ok (.iload_n 1, 1) := by decide +kernel
theorem d_K_authorize_2 : decode (mC m_K_authorize) 2 = .ok (.invokevirtual 202, 3) := by decide +kernel
theorem d_K_authorize_5 : decode (mC m_K_authorize) 5 = .ok (.astore 5, 2) := by decide +kernel
theorem d_K_authorize_7 : decode (mC m_K_authorize) 7 = .ok (.iload_n 2, 1) := by decide +kernel
theorem d_K_authorize_8 : decode (mC m_K_authorize) 8 = .ok (.iconst 4, 1) := by decide +kernel
theorem d_K_authorize_9 : decode (mC m_K_authorize) 9 = .ok (.invokestatic 148, 3) := by decide +kernel
theorem d_K_authorize_12 : decode (mC m_K_authorize) 12 = .ok (.aload_n 0, 1) := by decide +kernel
theorem d_K_authorize_13 : decode (mC m_K_authorize) 13 = .ok (.iload_n 3, 1) := by decide +kernel
theorem d_K_authorize_14 : decode (mC m_K_authorize) 14 = .ok (.invokevirtual 270, 3) := by decide +kernel
theorem d_K_authorize_17 : decode (mC m_K_authorize) 17 = .ok (.astore 6, 2) := by decide +kernel
theorem d_K_authorize_19 : decode (mC m_K_authorize) 19 = .ok (.iload 4, 2) := by decide +kernel
theorem d_K_authorize_21 : decode (mC m_K_authorize) 21 = .ok (.iconst 1, 1) := by decide +kernel
theorem d_K_authorize_22 : decode (mC m_K_authorize) 22 = .ok (.bipush (15), 2) := by decide +kernel
theorem d_K_authorize_24 : decode (mC m_K_authorize) 24 = .ok (.invokestatic 84, 3) := by decide +kernel
theorem d_K_authorize_27 : decode (mC m_K_authorize) 27 = .ok (.invokestatic 88, 3) := by decide +kernel
theorem d_K_authorize_30 : decode (mC m_K_authorize) 30 = .ok (.aload 5, 2) := by decide +kernel
theorem d_K_authorize_32 : decode (mC m_K_authorize) 32 = .ok (.getfield 206, 3) := by decide +kernel
theorem d_K_authorize_35 : decode (mC m_K_authorize) 35 = .ok (.ifCond .eq (19), 3) := by decide +kernel
theorem d_K_authorize_38 : decode (mC m_K_authorize) 38 = .ok (.aload_n 0, 1) := by decide +kernel
theorem d_K_authorize_39 : decode (mC m_K_authorize) 39 = .ok (.getfield 58, 3) := by decide +kernel
theorem d_K_authorize_42 : decode (mC m_K_authorize) 42 = .ok (.invokevirtual 134, 3) := by decide +kernel
theorem d_K_authorize_45 : decode (mC m_K_authorize) 45 = .ok (.bipush (60), 2) := by decide +kernel
theorem d_K_authorize_47 : decode (mC m_K_authorize) 47 = .ok (.if_icmp .ge (7), 3) := by decide +kernel
theorem d_K_authorize_50 : decode (mC m_K_authorize) 50 = .ok (.iconst 1, 1) := by decide +kernel
theorem d_K_authorize_51 : decode (mC m_K_authorize) 51 = .ok (.goto (4), 3) := by decide +kernel
theorem d_K_authorize_54 : decode (mC m_K_authorize) 54 = .ok (.iconst 0, 1) := by decide +kernel
theorem d_K_authorize_55 : decode (mC m_K_authorize) 55 = .ok (.invokestatic 96, 3) := by decide +kernel
theorem d_K_authorize_58 : decode (mC m_K_authorize) 58 = .ok (.aload 5, 2) := by decide +kernel
theorem d_K_authorize_60 : decode (mC m_K_authorize) 60 = .ok (.aload_n 0, 1) := by decide +kernel
theorem d_K_authorize_61 : decode (mC m_K_authorize) 61 = .ok (.getfield 92, 3) := by decide +kernel
theorem d_K_authorize_64 : decode (mC m_K_authorize) 64 = .ok (.putfield 222, 3) := by decide +kernel
theorem d_K_authorize_67 : decode (mC m_K_authorize) 67 = .ok (.iload 4, 2) := by decide +kernel
theorem d_K_authorize_69 : decode (mC m_K_authorize) 69 = .ok (.aload_n 0, 1) := by decide +kernel
theorem d_K_authorize_70 : decode (mC m_K_authorize) 70 = .ok (.aload 5, 2) := by decide +kernel
theorem d_K_authorize_72 : decode (mC m_K_authorize) 72 = .ok (.getfield 225, 3) := by decide +kernel
theorem d_K_authorize_75 : decode (mC m_K_authorize) 75 = .ok (.iload_n 2, 1) := by decide +kernel
theorem d_K_authorize_76 : decode (mC m_K_authorize) 76 = .ok (.invokevirtual 277, 3) := by decide +kernel
theorem d_K_authorize_79 : decode (mC m_K_authorize) 79 = .ok (.iconst (-1), 1) := by decide +kernel
theorem d_K_authorize_80 : decode (mC m_K_authorize) 80 = .ok (.ixor, 1) := by decide +kernel
theorem d_K_authorize_81 : decode (mC m_K_authorize) 81 = .ok (.iand, 1) := by decide +kernel
theorem d_K_authorize_82 : decode (mC m_K_authorize) 82 = .ok (.ifCond .eq (6), 3) := by decide +kernel
theorem d_K_authorize_85 : decode (mC m_K_authorize) 85 = .ok (.bipush (-3), 2) := by decide +kernel
theorem d_K_authorize_87 : decode (mC m_K_authorize) 87 = .ok (.ireturn, 1) := by decide +kernel
theorem d_K_authorize_88 : decode (mC m_K_authorize) 88 = .ok (.aload 5, 2) := by decide +kernel
theorem d_K_authorize_90 : decode (mC m_K_authorize) 90 = .ok (.aload_n 0, 1) := by decide +kernel
theorem d_K_authorize_91 : decode (mC m_K_authorize) 91 = .ok (.getfield 92, 3) := by decide +kernel
theorem d_K_authorize_94 : decode (mC m_K_authorize) 94 = .ok (.invokevirtual 215, 3) := by decide +kernel
theorem d_K_authorize_97 : decode (mC m_K_authorize) 97 = .ok (.aload 6, 2) := by decide +kernel
theorem d_K_authorize_99 : decode (mC m_K_authorize) 99 = .ok (.getfield 274, 3) := by decide +kernel
theorem d_K_authorize_102 : decode (mC m_K_authorize) 102 = .ok (.if_icmp .ge (6), 3) := by decide +kernel
theorem d_K_authorize_105 : decode (mC m_K_authorize) 105 = .ok (.bipush (-2), 2) := by decide +kernel
theorem d_K_authorize_107 : decode (mC m_K_authorize) 107 = .ok (.ireturn, 1) := by decide +kernel
theorem d_K_authorize_108 : decode (mC m_K_authorize) 108 = .ok (.aload_n 0, 1) := by decide +kernel
theorem d_K_authorize_109 : decode (mC m_K_authorize) 109 = .ok (.getfield 58, 3) := by decide +kernel
theorem d_K_authorize_112 : decode (mC m_K_authorize) 112 = .ok (.new 256, 3) := by decide +kernel
theorem d_K_authorize_115 : decode (mC m_K_authorize) 115 = .ok (.dup, 1) := by decide +kernel
theorem d_K_authorize_116 : decode (mC m_K_authorize) 116 = .ok (.aload 5, 2) := by decide +kernel
theorem d_K_authorize_118 : decode (mC m_K_authorize) 118 = .ok (.iload_n 2, 1) := by decide +kernel
theorem d_K_authorize_119 : decode (mC m_K_authorize) 119 = .ok (.iload_n 3, 1) := by decide +kernel
theorem d_K_authorize_120 : decode (mC m_K_authorize) 120 = .ok (.iload 4, 2) := by decide +kernel
theorem d_K_authorize_122 : decode (mC m_K_authorize) 122 = .ok (.aload_n 0, 1) := by decide +kernel
theorem d_K_authorize_123 : decode (mC m_K_authorize) 123 = .ok (.getfield 92, 3) := by decide +kernel
theorem d_K_authorize_126 : decode (mC m_K_authorize) 126 = .ok (.invokespecial 281, 3) := by decide +kernel
theorem d_K_authorize_129 : decode (mC m_K_authorize) 129 = .ok (.invokevirtual 145, 3) := by decide +kernel
theorem d_K_authorize_132 : decode (mC m_K_authorize) 132 = .ok (.pop, 1) := by decide +kernel
theorem d_K_authorize_133 : decode (mC m_K_authorize) 133 = .ok (.aload_n 0, 1) := by decide +kernel
theorem d_K_authorize_134 : decode (mC m_K_authorize) 134 = .ok (.getfield 58, 3) := by decide +kernel
theorem d_K_authorize_137 : decode (mC m_K_authorize) 137 = .ok (.invokevirtual 134, 3) := by decide +kernel
theorem d_K_authorize_140 : decode (mC m_K_authorize) 140 = .ok (.iconst 1, 1) := by decide +kernel
theorem d_K_authorize_141 : decode (mC m_K_authorize) 141 = .ok (.isub, 1) := by decide +kernel
theorem d_K_authorize_142 : decode (mC m_K_authorize) 142 = .ok (.ireturn, 1) := by decide +kernel
theorem d_W_authorize_0 : decode (mC m_W_authorize) 0 = .ok (.aload 5, 2) := by decide +kernel
theorem d_W_authorize_2 : decode (mC m_W_authorize) 2 = .ok (.iconst 0, 1) := by decide +kernel
theorem d_W_authorize_3 : decode (mC m_W_authorize) 3 = .ok (.aload_n 0, 1) := by decide +kernel
theorem d_W_authorize_4 : decode (mC m_W_authorize) 4 = .ok (.iload_n 1, 1) := by decide +kernel
theorem d_W_authorize_5 : decode (mC m_W_authorize) 5 = .ok (.iload_n 2, 1) := by decide +kernel
theorem d_W_authorize_6 : decode (mC m_W_authorize) 6 = .ok (.iload_n 3, 1) := by decide +kernel
theorem d_W_authorize_7 : decode (mC m_W_authorize) 7 = .ok (.iload 4, 2) := by decide +kernel
theorem d_W_authorize_9 : decode (mC m_W_authorize) 9 = .ok (.invokevirtual 96, 3) := by decide +kernel
theorem d_W_authorize_12 : decode (mC m_W_authorize) 12 = .ok (.i2l, 1) := by decide +kernel
theorem d_W_authorize_13 : decode (mC m_W_authorize) 13 = .ok (.lastore, 1) := by decide +kernel
theorem d_W_authorize_14 : decode (mC m_W_authorize) 14 = .ok (.goto (15), 3) := by decide +kernel
theorem d_W_authorize_17 : decode (mC m_W_authorize) 17 = .ok (.astore 6, 2) := by decide +kernel
theorem d_W_authorize_19 : decode (mC m_W_authorize) 19 = .ok (.iconst 1, 1) := by decide +kernel
theorem d_W_authorize_20 : decode (mC m_W_authorize) 20 = .ok (.ireturn, 1) := by decide +kernel
theorem d_W_authorize_21 : decode (mC m_W_authorize) 21 = .ok (.astore 6, 2) := by decide +kernel
theorem d_W_authorize_23 : decode (mC m_W_authorize) 23 = .ok (.iconst 2, 1) := by decide +kernel
theorem d_W_authorize_24 : decode (mC m_W_authorize) 24 = .ok (.ireturn, 1) := by decide +kernel
theorem d_W_authorize_25 : decode (mC m_W_authorize) 25 = .ok (.astore 6, 2) := by decide +kernel
theorem d_W_authorize_27 : decode (mC m_W_authorize) 27 = .ok (.iconst 3, 1) := by decide +kernel
theorem d_W_authorize_28 : decode (mC m_W_authorize) 28 = .ok (.ireturn, 1) := by decide +kernel
theorem d_W_authorize_29 : decode (mC m_W_authorize) 29 = .ok (.iconst 0, 1) := by decide +kernel
theorem d_W_authorize_30 : decode (mC m_W_authorize) 30 = .ok (.ireturn, 1) := by decide +kernel
theorem d_M_authorize_0 : decode (mC m_M_authorize) 0 = .ok (.aload_n 0, 1) := by decide +kernel
theorem d_M_authorize_1 : decode (mC m_M_authorize) 1 = .ok (.iload_n 1, 1) := by decide +kernel
theorem d_M_authorize_2 : decode (mC m_M_authorize) 2 = .ok (.invokevirtual 352, 3) := by decide +kernel
theorem d_M_authorize_5 : decode (mC m_M_authorize) 5 = .ok (.ifCond .eq (21), 3) := by decide +kernel
theorem d_M_authorize_8 : decode (mC m_M_authorize) 8 = .ok (.iload_n 2, 1) := by decide +kernel
theorem d_M_authorize_9 : decode (mC m_M_authorize) 9 = .ok (.invokestatic 358, 3) := by decide +kernel
theorem d_M_authorize_12 : decode (mC m_M_authorize) 12 = .ok (.ifCond .eq (14), 3) := by decide +kernel
theorem d_M_authorize_15 : decode (mC m_M_authorize) 15 = .ok (.iload_n 3, 1) := by decide +kernel
theorem d_M_authorize_16 : decode (mC m_M_authorize) 16 = .ok (.invokestatic 358, 3) := by decide +kernel
theorem d_M_authorize_19 : decode (mC m_M_authorize) 19 = .ok (.ifCond .eq (7), 3) := by decide +kernel
theorem d_M_authorize_22 : decode (mC m_M_authorize) 22 = .ok (.iconst 1, 1) := by decide +kernel
theorem d_M_authorize_23 : decode (mC m_M_authorize) 23 = .ok (.goto (4), 3) := by decide +kernel
theorem d_M_authorize_26 : decode (mC m_M_authorize) 26 = .ok (.iconst 0, 1) := by decide +kernel
theorem d_M_authorize_27 : decode (mC m_M_authorize) 27 = .ok (.istore 5, 2) := by decide +kernel
theorem d_M_authorize_29 : decode (mC m_M_authorize) 29 = .ok (.aload_n 0, 1) := by decide +kernel
theorem d_M_authorize_30 : decode (mC m_M_authorize) 30 = .ok (.iload 5, 2) := by decide +kernel
theorem d_M_authorize_32 : decode (mC m_M_authorize) 32 = .ok (.iload 4, 2) := by decide +kernel
theorem d_M_authorize_34 : decode (mC m_M_authorize) 34 = .ok (.iconst 1, 1) := by decide +kernel
theorem d_M_authorize_35 : decode (mC m_M_authorize) 35 = .ok (.bipush (15), 2) := by decide +kernel
theorem d_M_authorize_37 : decode (mC m_M_authorize) 37 = .ok (.invokestatic 228, 3) := by decide +kernel
theorem d_M_authorize_40 : decode (mC m_M_authorize) 40 = .ok (.iload 5, 2) := by decide +kernel
theorem d_M_authorize_42 : decode (mC m_M_authorize) 42 = .ok (.ifCond .eq (25), 3) := by decide +kernel
theorem d_M_authorize_45 : decode (mC m_M_authorize) 45 = .ok (.aload_n 0, 1) := by decide +kernel
theorem d_M_authorize_46 : decode (mC m_M_authorize) 46 = .ok (.getfield 104, 3) := by decide +kernel
theorem d_M_authorize_49 : decode (mC m_M_authorize) 49 = .ok (.iload_n 1, 1) := by decide +kernel
theorem d_M_authorize_50 : decode (mC m_M_authorize) 50 = .ok (.baload, 1) := by decide +kernel
theorem d_M_authorize_51 : decode (mC m_M_authorize) 51 = .ok (.ifCond .eq (16), 3) := by decide +kernel
theorem d_M_authorize_54 : decode (mC m_M_authorize) 54 = .ok (.aload_n 0, 1) := by decide +kernel
theorem d_M_authorize_55 : decode (mC m_M_authorize) 55 = .ok (.getfield 361, 3) := by decide +kernel
theorem d_M_authorize_58 : decode (mC m_M_authorize) 58 = .ok (.bipush (60), 2) := by decide +kernel
theorem d_M_authorize_60 : decode (mC m_M_authorize) 60 = .ok (.if_icmp .ge (7), 3) := by decide +kernel
theorem d_M_authorize_63 : decode (mC m_M_authorize) 63 = .ok (.iconst 1, 1) := by decide +kernel
theorem d_M_authorize_64 : decode (mC m_M_authorize) 64 = .ok (.goto (4), 3) := by decide +kernel
theorem d_M_authorize_67 : decode (mC m_M_authorize) 67 = .ok (.iconst 0, 1) := by decide +kernel
theorem d_M_authorize_68 : decode (mC m_M_authorize) 68 = .ok (.invokevirtual 344, 3) := by decide +kernel
theorem d_M_authorize_71 : decode (mC m_M_authorize) 71 = .ok (.ifCond .ne (5), 3) := by decide +kernel
theorem d_M_authorize_74 : decode (mC m_M_authorize) 74 = .ok (.iconst 0, 1) := by decide +kernel
theorem d_M_authorize_75 : decode (mC m_M_authorize) 75 = .ok (.ireturn, 1) := by decide +kernel
theorem d_M_authorize_76 : decode (mC m_M_authorize) 76 = .ok (.aload_n 0, 1) := by decide +kernel
theorem d_M_authorize_77 : decode (mC m_M_authorize) 77 = .ok (.getfield 98, 3) := by decide +kernel
theorem d_M_authorize_80 : decode (mC m_M_authorize) 80 = .ok (.iload_n 1, 1) := by decide +kernel
theorem d_M_authorize_81 : decode (mC m_M_authorize) 81 = .ok (.aload_n 0, 1) := by decide +kernel
theorem d_M_authorize_82 : decode (mC m_M_authorize) 82 = .ok (.getfield 247, 3) := by decide +kernel
theorem d_M_authorize_85 : decode (mC m_M_authorize) 85 = .ok (.iastore, 1) := by decide +kernel
theorem d_M_authorize_86 : decode (mC m_M_authorize) 86 = .ok (.aload_n 0, 1) := by decide +kernel
theorem d_M_authorize_87 : decode (mC m_M_authorize) 87 = .ok (.getfield 110, 3) := by decide +kernel
theorem d_M_authorize_90 : decode (mC m_M_authorize) 90 = .ok (.iconst 4, 1) := by decide +kernel
theorem d_M_authorize_91 : decode (mC m_M_authorize) 91 = .ok (.aload_n 0, 1) := by decide +kernel
theorem d_M_authorize_92 : decode (mC m_M_authorize) 92 = .ok (.getfield 92, 3) := by decide +kernel
theorem d_M_authorize_95 : decode (mC m_M_authorize) 95 = .ok (.iload_n 1, 1) := by decide +kernel
theorem d_M_authorize_96 : decode (mC m_M_authorize) 96 = .ok (.iaload, 1) := by decide +kernel
theorem d_M_authorize_97 : decode (mC m_M_authorize) 97 = .ok (.imul, 1) := by decide +kernel
theorem d_M_authorize_98 : decode (mC m_M_authorize) 98 = .ok (.iload_n 2, 1) := by decide +kernel
theorem d_M_authorize_99 : decode (mC m_M_authorize) 99 = .ok (.iadd, 1) := by decide +kernel
theorem d_M_authorize_100 : decode (mC m_M_authorize) 100 = .ok (.iaload, 1) := by decide +kernel
theorem d_M_authorize_101 : decode (mC m_M_authorize) 101 = .ok (.aload_n 0, 1) := by decide +kernel
theorem d_M_authorize_102 : decode (mC m_M_authorize) 102 = .ok (.getfield 110, 3) := by decide +kernel
theorem d_M_authorize_105 : decode (mC m_M_authorize) 105 = .ok (.bipush (24), 2) := by decide +kernel
theorem d_M_authorize_107 : decode (mC m_M_authorize) 107 = .ok (.iload_n 2, 1) := by decide +kernel
theorem d_M_authorize_108 : decode (mC m_M_authorize) 108 = .ok (.iadd, 1) := by decide +kernel
theorem d_M_authorize_109 : decode (mC m_M_authorize) 109 = .ok (.iaload, 1) := by decide +kernel
theorem d_M_authorize_110 : decode (mC m_M_authorize) 110 = .ok (.ior, 1) := by decide +kernel
theorem d_M_authorize_111 : decode (mC m_M_authorize) 111 = .ok (.istore 6, 2) := by decide +kernel
theorem d_M_authorize_113 : decode (mC m_M_authorize) 113 = .ok (.iload 4, 2) := by decide +kernel
theorem d_M_authorize_115 : decode (mC m_M_authorize) 115 = .ok (.iload 6, 2) := by decide +kernel
theorem d_M_authorize_117 : decode (mC m_M_authorize) 117 = .ok (.iconst (-1), 1) := by decide +kernel
theorem d_M_authorize_118 : decode (mC m_M_authorize) 118 = .ok (.ixor, 1) := by decide +kernel
theorem d_M_authorize_119 : decode (mC m_M_authorize) 119 = .ok (.iand, 1) := by decide +kernel
theorem d_M_authorize_120 : decode (mC m_M_authorize) 120 = .ok (.ifCond .eq (6), 3) := by decide +kernel
theorem d_M_authorize_123 : decode (mC m_M_authorize) 123 = .ok (.bipush (-3), 2) := by decide +kernel
theorem d_M_authorize_125 : decode (mC m_M_authorize) 125 = .ok (.ireturn, 1) := by decide +kernel
theorem d_M_authorize_126 : decode (mC m_M_authorize) 126 = .ok (.aload_n 0, 1) := by decide +kernel
theorem d_M_authorize_127 : decode (mC m_M_authorize) 127 = .ok (.iload_n 1, 1) := by decide +kernel
theorem d_M_authorize_128 : decode (mC m_M_authorize) 128 = .ok (.invokevirtual 355, 3) := by decide +kernel
theorem d_M_authorize_131 : decode (mC m_M_authorize) 131 = .ok (.aload_n 0, 1) := by decide +kernel
theorem d_M_authorize_132 : decode (mC m_M_authorize) 132 = .ok (.getfield 113, 3) := by decide +kernel
theorem d_M_authorize_135 : decode (mC m_M_authorize) 135 = .ok (.iload_n 3, 1) := by decide +kernel
theorem d_M_authorize_136 : decode (mC m_M_authorize) 136 = .ok (.iaload, 1) := by decide +kernel
theorem d_M_authorize_137 : decode (mC m_M_authorize) 137 = .ok (.if_icmp .ge (6), 3) := by decide +kernel
theorem d_M_authorize_140 : decode (mC m_M_authorize) 140 = .ok (.bipush (-2), 2) := by decide +kernel
theorem d_M_authorize_142 : decode (mC m_M_authorize) 142 = .ok (.ireturn, 1) := by decide +kernel
theorem d_M_authorize_143 : decode (mC m_M_authorize) 143 = .ok (.aload_n 0, 1) := by decide +kernel
theorem d_M_authorize_144 : decode (mC m_M_authorize) 144 = .ok (.getfield 116, 3) := by decide +kernel
theorem d_M_authorize_147 : decode (mC m_M_authorize) 147 = .ok (.aload_n 0, 1) := by decide +kernel
theorem d_M_authorize_148 : decode (mC m_M_authorize) 148 = .ok (.getfield 361, 3) := by decide +kernel
theorem d_M_authorize_151 : decode (mC m_M_authorize) 151 = .ok (.iload_n 1, 1) := by decide +kernel
theorem d_M_authorize_152 : decode (mC m_M_authorize) 152 = .ok (.iastore, 1) := by decide +kernel
theorem d_M_authorize_153 : decode (mC m_M_authorize) 153 = .ok (.aload_n 0, 1) := by decide +kernel
theorem d_M_authorize_154 : decode (mC m_M_authorize) 154 = .ok (.getfield 119, 3) := by decide +kernel
theorem d_M_authorize_157 : decode (mC m_M_authorize) 157 = .ok (.aload_n 0, 1) := by decide +kernel
theorem d_M_authorize_158 : decode (mC m_M_authorize) 158 = .ok (.getfield 361, 3) := by decide +kernel
theorem d_M_authorize_161 : decode (mC m_M_authorize) 161 = .ok (.iload_n 2, 1) := by decide +kernel
theorem d_M_authorize_162 : decode (mC m_M_authorize) 162 = .ok (.iastore, 1) := by decide +kernel
theorem d_M_authorize_163 : decode (mC m_M_authorize) 163 = .ok (.aload_n 0, 1) := by decide +kernel
theorem d_M_authorize_164 : decode (mC m_M_authorize) 164 = .ok (.getfield 122, 3) := by decide +kernel
theorem d_M_authorize_167 : decode (mC m_M_authorize) 167 = .ok (.aload_n 0, 1) := by decide +kernel
theorem d_M_authorize_168 : decode (mC m_M_authorize) 168 = .ok (.getfield 361, 3) := by decide +kernel
theorem d_M_authorize_171 : decode (mC m_M_authorize) 171 = .ok (.iload_n 3, 1) := by decide +kernel
theorem d_M_authorize_172 : decode (mC m_M_authorize) 172 = .ok (.iastore, 1) := by decide +kernel
theorem d_M_authorize_173 : decode (mC m_M_authorize) 173 = .ok (.aload_n 0, 1) := by decide +kernel
theorem d_M_authorize_174 : decode (mC m_M_authorize) 174 = .ok (.getfield 125, 3) := by decide +kernel
theorem d_M_authorize_177 : decode (mC m_M_authorize) 177 = .ok (.aload_n 0, 1) := by decide +kernel
theorem d_M_authorize_178 : decode (mC m_M_authorize) 178 = .ok (.getfield 361, 3) := by decide +kernel
theorem d_M_authorize_181 : decode (mC m_M_authorize) 181 = .ok (.iload 4, 2) := by decide +kernel
theorem d_M_authorize_183 : decode (mC m_M_authorize) 183 = .ok (.iastore, 1) := by decide +kernel
theorem d_M_authorize_184 : decode (mC m_M_authorize) 184 = .ok (.aload_n 0, 1) := by decide +kernel
theorem d_M_authorize_185 : decode (mC m_M_authorize) 185 = .ok (.getfield 128, 3) := by decide +kernel
theorem d_M_authorize_188 : decode (mC m_M_authorize) 188 = .ok (.aload_n 0, 1) := by decide +kernel
theorem d_M_authorize_189 : decode (mC m_M_authorize) 189 = .ok (.getfield 361, 3) := by decide +kernel
theorem d_M_authorize_192 : decode (mC m_M_authorize) 192 = .ok (.aload_n 0, 1) := by decide +kernel
theorem d_M_authorize_193 : decode (mC m_M_authorize) 193 = .ok (.getfield 247, 3) := by decide +kernel
theorem d_M_authorize_196 : decode (mC m_M_authorize) 196 = .ok (.iastore, 1) := by decide +kernel
theorem d_M_authorize_197 : decode (mC m_M_authorize) 197 = .ok (.aload_n 0, 1) := by decide +kernel
theorem d_M_authorize_198 : decode (mC m_M_authorize) 198 = .ok (.getfield 131, 3) := by decide +kernel
theorem d_M_authorize_201 : decode (mC m_M_authorize) 201 = .ok (.aload_n 0, 1) := by decide +kernel
theorem d_M_authorize_202 : decode (mC m_M_authorize) 202 = .ok (.getfield 361, 3) := by decide +kernel
theorem d_M_authorize_205 : decode (mC m_M_authorize) 205 = .ok (.iconst (-1), 1) := by decide +kernel
theorem d_M_authorize_206 : decode (mC m_M_authorize) 206 = .ok (.iastore, 1) := by decide +kernel
theorem d_M_authorize_207 : decode (mC m_M_authorize) 207 = .ok (.aload_n 0, 1) := by decide +kernel
theorem d_M_authorize_208 : decode (mC m_M_authorize) 208 = .ok (.dup, 1) := by decide +kernel
theorem d_M_authorize_209 : decode (mC m_M_authorize) 209 = .ok (.getfield 361, 3) := by decide +kernel
theorem d_M_authorize_212 : decode (mC m_M_authorize) 212 = .ok (.iconst 1, 1) := by decide +kernel
theorem d_M_authorize_213 : decode (mC m_M_authorize) 213 = .ok (.iadd, 1) := by decide +kernel
theorem d_M_authorize_214 : decode (mC m_M_authorize) 214 = .ok (.putfield 361, 3) := by decide +kernel
theorem d_M_authorize_217 : decode (mC m_M_authorize) 217 = .ok (.aload_n 0, 1) := by decide +kernel
theorem d_M_authorize_218 : decode (mC m_M_authorize) 218 = .ok (.getfield 361, 3) := by decide +kernel
theorem d_M_authorize_221 : decode (mC m_M_authorize) 221 = .ok (.iconst 1, 1) := by decide +kernel
theorem d_M_authorize_222 : decode (mC m_M_authorize) 222 = .ok (.isub, 1) := by decide +kernel
theorem d_M_authorize_223 : decode (mC m_M_authorize) 223 = .ok (.ireturn, 1) := by decide +kernel
theorem d_Token_init_0 : decode (mC m_Token_init) 0 = .ok (.aload_n 0, 1) := by decide +kernel
theorem d_Token_init_1 : decode (mC m_Token_init) 1 = .ok (.invokespecial 1, 3) := by decide +kernel
theorem d_Token_init_4 : decode (mC m_Token_init) 4 = .ok (.aload_n 0, 1) := by decide +kernel
theorem d_Token_init_5 : decode (mC m_Token_init) 5 = .ok (.aload_n 1, 1) := by decide +kernel
theorem d_Token_init_6 : decode (mC m_Token_init) 6 = .ok (.putfield 7, 3) := by decide +kernel
theorem d_Token_init_9 : decode (mC m_Token_init) 9 = .ok (.aload_n 0, 1) := by decide +kernel
theorem d_Token_init_10 : decode (mC m_Token_init) 10 = .ok (.iload_n 2, 1) := by decide +kernel
theorem d_Token_init_11 : decode (mC m_Token_init) 11 = .ok (.putfield 13, 3) := by decide +kernel
theorem d_Token_init_14 : decode (mC m_Token_init) 14 = .ok (.aload_n 0, 1) := by decide +kernel
theorem d_Token_init_15 : decode (mC m_Token_init) 15 = .ok (.iload_n 3, 1) := by decide +kernel
theorem d_Token_init_16 : decode (mC m_Token_init) 16 = .ok (.putfield 17, 3) := by decide +kernel
theorem d_Token_init_19 : decode (mC m_Token_init) 19 = .ok (.aload_n 0, 1) := by decide +kernel
theorem d_Token_init_20 : decode (mC m_Token_init) 20 = .ok (.iload 4, 2) := by decide +kernel
theorem d_Token_init_22 : decode (mC m_Token_init) 22 = .ok (.putfield 20, 3) := by decide +kernel
theorem d_Token_init_25 : decode (mC m_Token_init) 25 = .ok (.aload_n 0, 1) := by decide +kernel
theorem d_Token_init_26 : decode (mC m_Token_init) 26 = .ok (.iload 5, 2) := by decide +kernel
theorem d_Token_init_28 : decode (mC m_Token_init) 28 = .ok (.putfield 23, 3) := by decide +kernel
theorem d_Token_init_31 : decode (mC m_Token_init) 31 = .ok (.aload_n 0, 1) := by decide +kernel
theorem d_Token_init_32 : decode (mC m_Token_init) 32 = .ok (.iload 6, 2) := by decide +kernel
theorem d_Token_init_34 : decode (mC m_Token_init) 34 = .ok (.putfield 26, 3) := by decide +kernel
theorem d_Token_init_37 : decode (mC m_Token_init) 37 = .ok (.aload_n 0, 1) := by decide +kernel
theorem d_Token_init_38 : decode (mC m_Token_init) 38 = .ok (.iload 7, 2) := by decide +kernel
theorem d_Token_init_40 : decode (mC m_Token_init) 40 = .ok (.putfield 29, 3) := by decide +kernel
theorem d_Token_init_43 : decode (mC m_Token_init) 43 = .ok (.return_, 1) := by decide +kernel
theorem d_K_addToken_0 : decode (mC m_K_addToken) 0 = .ok (.aload_n 1, 1) := by decide +kernel
theorem d_K_addToken_1 : decode (mC m_K_addToken) 1 = .ok (.getfield 321, 3) := by decide +kernel
theorem d_K_addToken_4 : decode (mC m_K_addToken) 4 = .ok (.aload_n 0, 1) := by decide +kernel
theorem d_K_addToken_5 : decode (mC m_K_addToken) 5 = .ok (.getfield 64, 3) := by decide +kernel
theorem d_K_addToken_8 : decode (mC m_K_addToken) 8 = .ok (.invokevirtual 134, 3) := by decide +kernel
theorem d_K_addToken_11 : decode (mC m_K_addToken) 11 = .ok (.putfield 306, 3) := by decide +kernel
theorem d_K_addToken_14 : decode (mC m_K_addToken) 14 = .ok (.aload_n 1, 1) := by decide +kernel
theorem d_K_addToken_15 : decode (mC m_K_addToken) 15 = .ok (.getfield 321, 3) := by decide +kernel
theorem d_K_addToken_18 : decode (mC m_K_addToken) 18 = .ok (.dup, 1) := by decide +kernel
theorem d_K_addToken_19 : decode (mC m_K_addToken) 19 = .ok (.getfield 555, 3) := by decide +kernel
theorem d_K_addToken_22 : decode (mC m_K_addToken) 22 = .ok (.iconst 1, 1) := by decide +kernel
theorem d_K_addToken_23 : decode (mC m_K_addToken) 23 = .ok (.aload_n 1, 1) := by decide +kernel
theorem d_K_addToken_24 : decode (mC m_K_addToken) 24 = .ok (.getfield 327, 3) := by decide +kernel
theorem d_K_addToken_27 : decode (mC m_K_addToken) 27 = .ok (.ishl, 1) := by decide +kernel
theorem d_K_addToken_28 : decode (mC m_K_addToken) 28 = .ok (.ior, 1) := by decide +kernel
theorem d_K_addToken_29 : decode (mC m_K_addToken) 29 = .ok (.putfield 555, 3) := by decide +kernel
theorem d_K_addToken_32 : decode (mC m_K_addToken) 32 = .ok (.aload_n 0, 1) := by decide +kernel
theorem d_K_addToken_33 : decode (mC m_K_addToken) 33 = .ok (.getfield 64, 3) := by decide +kernel
theorem d_K_addToken_36 : decode (mC m_K_addToken) 36 = .ok (.aload_n 1, 1) := by decide +kernel
theorem d_K_addToken_37 : decode (mC m_K_addToken) 37 = .ok (.invokevirtual 145, 3) := by decide +kernel
theorem d_K_addToken_40 : decode (mC m_K_addToken) 40 = .ok (.pop, 1) := by decide +kernel
theorem d_K_addToken_41 : decode (mC m_K_addToken) 41 = .ok (.return_, 1) := by decide +kernel
theorem d_K_addFirstHandToken_0 : decode (mC m_K_addFirstHandToken) 0 = .ok (.aload_n 0, 1) := by decide +kernel
theorem d_K_addFirstHandToken_1 : decode (mC m_K_addFirstHandToken) 1 = .ok (.new 314, 3) := by decide +kernel
theorem d_K_addFirstHandToken_4 : decode (mC m_K_addFirstHandToken) 4 = .ok (.dup, 1) := by decide +kernel
theorem d_K_addFirstHandToken_5 : decode (mC m_K_addFirstHandToken) 5 = .ok (.aload_n 1, 1) := by decide +kernel
theorem d_K_addFirstHandToken_6 : decode (mC m_K_addFirstHandToken) 6 = .ok (.aload_n 1, 1) := by decide +kernel
theorem d_K_addFirstHandToken_7 : decode (mC m_K_addFirstHandToken) 7 = .ok (.getfield 263, 3) := by decide +kernel
theorem d_K_addFirstHandToken_10 : decode (mC m_K_addFirstHandToken) 10 = .ok (.aload_n 1, 1) := by decide +kernel
theorem d_K_addFirstHandToken_11 : decode (mC m_K_addFirstHandToken) 11 = .ok (.getfield 553, 3) := by decide +kernel
theorem d_K_addFirstHandToken_14 : decode (mC m_K_addFirstHandToken) 14 = .ok (.aload_n 1, 1) := by decide +kernel
theorem d_K_addFirstHandToken_15 : decode (mC m_K_addFirstHandToken) 15 = .ok (.getfield 554, 3) := by decide +kernel
theorem d_K_addFirstHandToken_18 : decode (mC m_K_addFirstHandToken) 18 = .ok (.iconst 0, 1) := by decide +kernel
theorem d_K_addFirstHandToken_19 : decode (mC m_K_addFirstHandToken) 19 = .ok (.aload_n 0, 1) := by decide +kernel
theorem d_K_addFirstHandToken_20 : decode (mC m_K_addFirstHandToken) 20 = .ok (.getfield 70, 3) := by decide +kernel
theorem d_K_addFirstHandToken_23 : decode (mC m_K_addFirstHandToken) 23 = .ok (.getfield 330, 3) := by decide +kernel
theorem d_K_addFirstHandToken_26 : decode (mC m_K_addFirstHandToken) 26 = .ok (.aload_n 0, 1) := by decide +kernel
theorem d_K_addFirstHandToken_27 : decode (mC m_K_addFirstHandToken) 27 = .ok (.getfield 92, 3) := by decide +kernel
theorem d_K_addFirstHandToken_30 : decode (mC m_K_addFirstHandToken) 30 = .ok (.bipush (10), 2) := by decide +kernel
theorem d_K_addFirstHandToken_32 : decode (mC m_K_addFirstHandToken) 32 = .ok (.iadd, 1) := by decide +kernel
theorem d_K_addFirstHandToken_33 : decode (mC m_K_addFirstHandToken) 33 = .ok (.invokespecial 333, 3) := by decide +kernel
theorem d_K_addFirstHandToken_36 : decode (mC m_K_addFirstHandToken) 36 = .ok (.invokevirtual 336, 3) := by decide +kernel
theorem d_K_addFirstHandToken_39 : decode (mC m_K_addFirstHandToken) 39 = .ok (.return_, 1) := by decide +kernel
theorem d_K_makeFamily_0 : decode (mC m_K_makeFamily) 0 = .ok (.aload_n 1, 1) := by decide +kernel
theorem d_K_makeFamily_1 : decode (mC m_K_makeFamily) 1 = .ok (.aload_n 0, 1) := by decide +kernel
theorem d_K_makeFamily_2 : decode (mC m_K_makeFamily) 2 = .ok (.getfield 61, 3) := by decide +kernel
theorem d_K_makeFamily_5 : decode (mC m_K_makeFamily) 5 = .ok (.invokevirtual 134, 3) := by decide +kernel
theorem d_K_makeFamily_8 : decode (mC m_K_makeFamily) 8 = .ok (.putfield 284, 3) := by decide +kernel
theorem d_K_makeFamily_11 : decode (mC m_K_makeFamily) 11 = .ok (.aload_n 1, 1) := by decide +kernel
theorem d_K_makeFamily_12 : decode (mC m_K_makeFamily) 12 = .ok (.iconst 1, 1) := by decide +kernel
theorem d_K_makeFamily_13 : decode (mC m_K_makeFamily) 13 = .ok (.putfield 258, 3) := by decide +kernel
theorem d_K_makeFamily_16 : decode (mC m_K_makeFamily) 16 = .ok (.aload_n 0, 1) := by decide +kernel
theorem d_K_makeFamily_17 : decode (mC m_K_makeFamily) 17 = .ok (.getfield 61, 3) := by decide +kernel
theorem d_K_makeFamily_20 : decode (mC m_K_makeFamily) 20 = .ok (.aload_n 1, 1) := by decide +kernel
theorem d_K_makeFamily_21 : decode (mC m_K_makeFamily) 21 = .ok (.invokevirtual 145, 3) := by decide +kernel
theorem d_K_makeFamily_24 : decode (mC m_K_makeFamily) 24 = .ok (.pop, 1) := by decide +kernel
theorem d_K_makeFamily_25 : decode (mC m_K_makeFamily) 25 = .ok (.aload_n 0, 1) := by decide +kernel
theorem d_K_makeFamily_26 : decode (mC m_K_makeFamily) 26 = .ok (.getfield 10, 3) := by decide +kernel
theorem d_K_makeFamily_29 : decode (mC m_K_makeFamily) 29 = .ok (.iconst 2, 1) := by decide +kernel
theorem d_K_makeFamily_30 : decode (mC m_K_makeFamily) 30 = .ok (.aload_n 1, 1) := by decide +kernel
theorem d_K_makeFamily_31 : decode (mC m_K_makeFamily) 31 = .ok (.getfield 284, 3) := by decide +kernel
theorem d_K_makeFamily_34 : decode (mC m_K_makeFamily) 34 = .ok (.aload_n 0, 1) := by decide +kernel
theorem d_K_makeFamily_35 : decode (mC m_K_makeFamily) 35 = .ok (.getfield 92, 3) := by decide +kernel
theorem d_K_makeFamily_38 : decode (mC m_K_makeFamily) 38 = .ok (.invokevirtual 351, 3) := by decide +kernel
theorem d_K_makeFamily_41 : decode (mC m_K_makeFamily) 41 = .ok (.aload_n 0, 1) := by decide +kernel
theorem d_K_makeFamily_42 : decode (mC m_K_makeFamily) 42 = .ok (.aload_n 1, 1) := by decide +kernel
theorem d_K_makeFamily_43 : decode (mC m_K_makeFamily) 43 = .ok (.invokevirtual 550, 3) := by decide +kernel
theorem d_K_makeFamily_46 : decode (mC m_K_makeFamily) 46 = .ok (.return_, 1) := by decide +kernel
theorem d_K_redeem_0 : decode (mC m_K_redeem) 0 = .ok (.iload_n 1, 1) := by decide +kernel
theorem d_K_redeem_1 : decode (mC m_K_redeem) 1 = .ok (.aload_n 0, 1) := by decide +kernel
theorem d_K_redeem_2 : decode (mC m_K_redeem) 2 = .ok (.getfield 58, 3) := by decide +kernel
theorem d_K_redeem_5 : decode (mC m_K_redeem) 5 = .ok (.invokevirtual 134, 3) := by decide +kernel
theorem d_K_redeem_8 : decode (mC m_K_redeem) 8 = .ok (.invokestatic 148, 3) := by decide +kernel
theorem d_K_redeem_11 : decode (mC m_K_redeem) 11 = .ok (.aload_n 0, 1) := by decide +kernel
theorem d_K_redeem_12 : decode (mC m_K_redeem) 12 = .ok (.getfield 58, 3) := by decide +kernel
theorem d_K_redeem_15 : decode (mC m_K_redeem) 15 = .ok (.iload_n 1, 1) := by decide +kernel
theorem d_K_redeem_16 : decode (mC m_K_redeem) 16 = .ok (.invokevirtual 152, 3) := by decide +kernel
theorem d_K_redeem_19 : decode (mC m_K_redeem) 19 = .ok (.checkcast 256, 3) := by decide +kernel
theorem d_K_redeem_22 : decode (mC m_K_redeem) 22 = .ok (.astore_n 2, 1) := by decide +kernel
theorem d_K_redeem_23 : decode (mC m_K_redeem) 23 = .ok (.aload_n 2, 1) := by decide +kernel
theorem d_K_redeem_24 : decode (mC m_K_redeem) 24 = .ok (.getfield 284, 3) := by decide +kernel
theorem d_K_redeem_27 : decode (mC m_K_redeem) 27 = .ok (.iconst (-1), 1) := by decide +kernel
theorem d_K_redeem_28 : decode (mC m_K_redeem) 28 = .ok (.if_icmp .eq (10), 3) := by decide +kernel
theorem d_K_redeem_31 : decode (mC m_K_redeem) 31 = .ok (.aload_n 0, 1) := by decide +kernel
theorem d_K_redeem_32 : decode (mC m_K_redeem) 32 = .ok (.aload_n 2, 1) := by decide +kernel
theorem d_K_redeem_33 : decode (mC m_K_redeem) 33 = .ok (.invokevirtual 266, 3) := by decide +kernel
theorem d_K_redeem_36 : decode (mC m_K_redeem) 36 = .ok (.iconst (-1), 1) := by decide +kernel
theorem d_K_redeem_37 : decode (mC m_K_redeem) 37 = .ok (.ireturn, 1) := by decide +kernel
theorem d_K_redeem_38 : decode (mC m_K_redeem) 38 = .ok (.aload_n 2, 1) := by decide +kernel
theorem d_K_redeem_39 : decode (mC m_K_redeem) 39 = .ok (.getfield 261, 3) := by decide +kernel
theorem d_K_redeem_42 : decode (mC m_K_redeem) 42 = .ok (.getfield 206, 3) := by decide +kernel
theorem d_K_redeem_45 : decode (mC m_K_redeem) 45 = .ok (.ifCond .eq (16), 3) := by decide +kernel
theorem d_K_redeem_48 : decode (mC m_K_redeem) 48 = .ok (.aload_n 0, 1) := by decide +kernel
theorem d_K_redeem_49 : decode (mC m_K_redeem) 49 = .ok (.getfield 92, 3) := by decide +kernel
theorem d_K_redeem_52 : decode (mC m_K_redeem) 52 = .ok (.aload_n 2, 1) := by decide +kernel
theorem d_K_redeem_53 : decode (mC m_K_redeem) 53 = .ok (.getfield 287, 3) := by decide +kernel
theorem d_K_redeem_56 : decode (mC m_K_redeem) 56 = .ok (.isub, 1) := by decide +kernel
theorem d_K_redeem_57 : decode (mC m_K_redeem) 57 = .ok (.iconst 5, 1) := by decide +kernel
theorem d_K_redeem_58 : decode (mC m_K_redeem) 58 = .ok (.if_icmp .le (5), 3) := by decide +kernel
theorem d_K_redeem_61 : decode (mC m_K_redeem) 61 = .ok (.iconst (-1), 1) := by decide +kernel
theorem d_K_redeem_62 : decode (mC m_K_redeem) 62 = .ok (.ireturn, 1) := by decide +kernel
theorem d_K_redeem_63 : decode (mC m_K_redeem) 63 = .ok (.aload_n 0, 1) := by decide +kernel
theorem d_K_redeem_64 : decode (mC m_K_redeem) 64 = .ok (.getfield 64, 3) := by decide +kernel
theorem d_K_redeem_67 : decode (mC m_K_redeem) 67 = .ok (.invokevirtual 134, 3) := by decide +kernel
theorem d_K_redeem_70 : decode (mC m_K_redeem) 70 = .ok (.sipush (200), 3) := by decide +kernel
theorem d_K_redeem_73 : decode (mC m_K_redeem) 73 = .ok (.if_icmp .ge (7), 3) := by decide +kernel
theorem d_K_redeem_76 : decode (mC m_K_redeem) 76 = .ok (.iconst 1, 1) := by decide +kernel
theorem d_K_redeem_77 : decode (mC m_K_redeem) 77 = .ok (.goto (4), 3) := by decide +kernel
theorem d_K_redeem_80 : decode (mC m_K_redeem) 80 = .ok (.iconst 0, 1) := by decide +kernel
theorem d_K_redeem_81 : decode (mC m_K_redeem) 81 = .ok (.invokestatic 96, 3) := by decide +kernel
theorem d_K_redeem_84 : decode (mC m_K_redeem) 84 = .ok (.aload_n 0, 1) := by decide +kernel
theorem d_K_redeem_85 : decode (mC m_K_redeem) 85 = .ok (.aload_n 2, 1) := by decide +kernel
theorem d_K_redeem_86 : decode (mC m_K_redeem) 86 = .ok (.invokevirtual 290, 3) := by decide +kernel
theorem d_K_redeem_89 : decode (mC m_K_redeem) 89 = .ok (.aload_n 2, 1) := by decide +kernel
theorem d_K_redeem_90 : decode (mC m_K_redeem) 90 = .ok (.getfield 284, 3) := by decide +kernel
theorem d_K_redeem_93 : decode (mC m_K_redeem) 93 = .ok (.ireturn, 1) := by decide +kernel
theorem d_W_redeem_0 : decode (mC m_W_redeem) 0 = .ok (.aload_n 2, 1) := by decide +kernel
theorem d_W_redeem_1 : decode (mC m_W_redeem) 1 = .ok (.iconst 0, 1) := by decide +kernel
theorem d_W_redeem_2 : decode (mC m_W_redeem) 2 = .ok (.aload_n 0, 1) := by decide +kernel
theorem d_W_redeem_3 : decode (mC m_W_redeem) 3 = .ok (.iload_n 1, 1) := by decide +kernel
theorem d_W_redeem_4 : decode (mC m_W_redeem) 4 = .ok (.invokevirtual 100, 3) := by decide +kernel
theorem d_W_redeem_7 : decode (mC m_W_redeem) 7 = .ok (.i2l, 1) := by decide +kernel
theorem d_W_redeem_8 : decode (mC m_W_redeem) 8 = .ok (.lastore, 1) := by decide +kernel
theorem d_W_redeem_9 : decode (mC m_W_redeem) 9 = .ok (.goto (9), 3) := by decide +kernel
theorem d_W_redeem_12 : decode (mC m_W_redeem) 12 = .ok (.astore_n 3, 1) := by decide +kernel
theorem d_W_redeem_13 : decode (mC m_W_redeem) 13 = .ok (.iconst 1, 1) := by decide +kernel
theorem d_W_redeem_14 : decode (mC m_W_redeem) 14 = .ok (.ireturn, 1) := by decide +kernel
theorem d_W_redeem_15 : decode (mC m_W_redeem) 15 = .ok (.astore_n 3, 1) := by decide +kernel
theorem d_W_redeem_16 : decode (mC m_W_redeem) 16 = .ok (.iconst 2, 1) := by decide +kernel
theorem d_W_redeem_17 : decode (mC m_W_redeem) 17 = .ok (.ireturn, 1) := by decide +kernel
theorem d_W_redeem_18 : decode (mC m_W_redeem) 18 = .ok (.iconst 0, 1) := by decide +kernel
theorem d_W_redeem_19 : decode (mC m_W_redeem) 19 = .ok (.ireturn, 1) := by decide +kernel
theorem d_M_newToken_0 : decode (mC m_M_newToken) 0 = .ok (.aload_n 0, 1) := by decide +kernel
theorem d_M_newToken_1 : decode (mC m_M_newToken) 1 = .ok (.getfield 241, 3) := by decide +kernel
theorem d_M_newToken_4 : decode (mC m_M_newToken) 4 = .ok (.istore 7, 2) := by decide +kernel
theorem d_M_newToken_6 : decode (mC m_M_newToken) 6 = .ok (.aload_n 0, 1) := by decide +kernel
theorem d_M_newToken_7 : decode (mC m_M_newToken) 7 = .ok (.getfield 161, 3) := by decide +kernel
theorem d_M_newToken_10 : decode (mC m_M_newToken) 10 = .ok (.iload 7, 2) := by decide +kernel
theorem d_M_newToken_12 : decode (mC m_M_newToken) 12 = .ok (.iload_n 1, 1) := by decide +kernel
theorem d_M_newToken_13 : decode (mC m_M_newToken) 13 = .ok (.iastore, 1) := by decide +kernel
theorem d_M_newToken_14 : decode (mC m_M_newToken) 14 = .ok (.aload_n 0, 1) := by decide +kernel
theorem d_M_newToken_15 : decode (mC m_M_newToken) 15 = .ok (.getfield 149, 3) := by decide +kernel
theorem d_M_newToken_18 : decode (mC m_M_newToken) 18 = .ok (.iload 7, 2) := by decide +kernel
theorem d_M_newToken_20 : decode (mC m_M_newToken) 20 = .ok (.iload_n 2, 1) := by decide +kernel
theorem d_M_newToken_21 : decode (mC m_M_newToken) 21 = .ok (.iastore, 1) := by decide +kernel
theorem d_M_newToken_22 : decode (mC m_M_newToken) 22 = .ok (.aload_n 0, 1) := by decide +kernel
theorem d_M_newToken_23 : decode (mC m_M_newToken) 23 = .ok (.getfield 152, 3) := by decide +kernel
theorem d_M_newToken_26 : decode (mC m_M_newToken) 26 = .ok (.iload 7, 2) := by decide +kernel
theorem d_M_newToken_28 : decode (mC m_M_newToken) 28 = .ok (.iload_n 3, 1) := by decide +kernel
theorem d_M_newToken_29 : decode (mC m_M_newToken) 29 = .ok (.iastore, 1) := by decide +kernel
theorem d_M_newToken_30 : decode (mC m_M_newToken) 30 = .ok (.aload_n 0, 1) := by decide +kernel
theorem d_M_newToken_31 : decode (mC m_M_newToken) 31 = .ok (.getfield 155, 3) := by decide +kernel
theorem d_M_newToken_34 : decode (mC m_M_newToken) 34 = .ok (.iload 7, 2) := by decide +kernel
theorem d_M_newToken_36 : decode (mC m_M_newToken) 36 = .ok (.iload 4, 2) := by decide +kernel
theorem d_M_newToken_38 : decode (mC m_M_newToken) 38 = .ok (.iastore, 1) := by decide +kernel
theorem d_M_newToken_39 : decode (mC m_M_newToken) 39 = .ok (.aload_n 0, 1) := by decide +kernel
theorem d_M_newToken_40 : decode (mC m_M_newToken) 40 = .ok (.getfield 158, 3) := by decide +kernel
theorem d_M_newToken_43 : decode (mC m_M_newToken) 43 = .ok (.iload 7, 2) := by decide +kernel
theorem d_M_newToken_45 : decode (mC m_M_newToken) 45 = .ok (.iload 5, 2) := by decide +kernel
theorem d_M_newToken_47 : decode (mC m_M_newToken) 47 = .ok (.iastore, 1) := by decide +kernel
theorem d_M_newToken_48 : decode (mC m_M_newToken) 48 = .ok (.aload_n 0, 1) := by decide +kernel
theorem d_M_newToken_49 : decode (mC m_M_newToken) 49 = .ok (.getfield 167, 3) := by decide +kernel
theorem d_M_newToken_52 : decode (mC m_M_newToken) 52 = .ok (.iload 7, 2) := by decide +kernel
theorem d_M_newToken_54 : decode (mC m_M_newToken) 54 = .ok (.iload 6, 2) := by decide +kernel
theorem d_M_newToken_56 : decode (mC m_M_newToken) 56 = .ok (.iastore, 1) := by decide +kernel
theorem d_M_newToken_57 : decode (mC m_M_newToken) 57 = .ok (.aload_n 0, 1) := by decide +kernel
theorem d_M_newToken_58 : decode (mC m_M_newToken) 58 = .ok (.getfield 164, 3) := by decide +kernel
theorem d_M_newToken_61 : decode (mC m_M_newToken) 61 = .ok (.iload 7, 2) := by decide +kernel
theorem d_M_newToken_63 : decode (mC m_M_newToken) 63 = .ok (.aload_n 0, 1) := by decide +kernel
theorem d_M_newToken_64 : decode (mC m_M_newToken) 64 = .ok (.getfield 281, 3) := by decide +kernel
theorem d_M_newToken_67 : decode (mC m_M_newToken) 67 = .ok (.iastore, 1) := by decide +kernel
theorem d_M_newToken_68 : decode (mC m_M_newToken) 68 = .ok (.aload_n 0, 1) := by decide +kernel
theorem d_M_newToken_69 : decode (mC m_M_newToken) 69 = .ok (.getfield 143, 3) := by decide +kernel
theorem d_M_newToken_72 : decode (mC m_M_newToken) 72 = .ok (.iload_n 1, 1) := by decide +kernel
theorem d_M_newToken_73 : decode (mC m_M_newToken) 73 = .ok (.iload 7, 2) := by decide +kernel
theorem d_M_newToken_75 : decode (mC m_M_newToken) 75 = .ok (.iastore, 1) := by decide +kernel
theorem d_M_newToken_76 : decode (mC m_M_newToken) 76 = .ok (.aload_n 0, 1) := by decide +kernel
theorem d_M_newToken_77 : decode (mC m_M_newToken) 77 = .ok (.dup, 1) := by decide +kernel
theorem d_M_newToken_78 : decode (mC m_M_newToken) 78 = .ok (.getfield 241, 3) := by decide +kernel
theorem d_M_newToken_81 : decode (mC m_M_newToken) 81 = .ok (.iconst 1, 1) := by decide +kernel
theorem d_M_newToken_82 : decode (mC m_M_newToken) 82 = .ok (.iadd, 1) := by decide +kernel
theorem d_M_newToken_83 : decode (mC m_M_newToken) 83 = .ok (.putfield 241, 3) := by decide +kernel
theorem d_M_newToken_86 : decode (mC m_M_newToken) 86 = .ok (.iload 7, 2) := by decide +kernel
theorem d_M_newToken_88 : decode (mC m_M_newToken) 88 = .ok (.ireturn, 1) := by decide +kernel
theorem d_M_firstToken_0 : decode (mC m_M_firstToken) 0 = .ok (.aload_n 0, 1) := by decide +kernel
theorem d_M_firstToken_1 : decode (mC m_M_firstToken) 1 = .ok (.getfield 134, 3) := by decide +kernel
theorem d_M_firstToken_4 : decode (mC m_M_firstToken) 4 = .ok (.iload_n 1, 1) := by decide +kernel
theorem d_M_firstToken_5 : decode (mC m_M_firstToken) 5 = .ok (.iaload, 1) := by decide +kernel
theorem d_M_firstToken_6 : decode (mC m_M_firstToken) 6 = .ok (.istore_n 2, 1) := by decide +kernel
theorem d_M_firstToken_7 : decode (mC m_M_firstToken) 7 = .ok (.aload_n 0, 1) := by decide +kernel
theorem d_M_firstToken_8 : decode (mC m_M_firstToken) 8 = .ok (.iload_n 1, 1) := by decide +kernel
theorem d_M_firstToken_9 : decode (mC m_M_firstToken) 9 = .ok (.aload_n 0, 1) := by decide +kernel
theorem d_M_firstToken_10 : decode (mC m_M_firstToken) 10 = .ok (.getfield 119, 3) := by decide +kernel
theorem d_M_firstToken_13 : decode (mC m_M_firstToken) 13 = .ok (.iload_n 2, 1) := by decide +kernel
theorem d_M_firstToken_14 : decode (mC m_M_firstToken) 14 = .ok (.iaload, 1) := by decide +kernel
theorem d_M_firstToken_15 : decode (mC m_M_firstToken) 15 = .ok (.aload_n 0, 1) := by decide +kernel
theorem d_M_firstToken_16 : decode (mC m_M_firstToken) 16 = .ok (.getfield 122, 3) := by decide +kernel
theorem d_M_firstToken_19 : decode (mC m_M_firstToken) 19 = .ok (.iload_n 2, 1) := by decide +kernel
theorem d_M_firstToken_20 : decode (mC m_M_firstToken) 20 = .ok (.iaload, 1) := by decide +kernel
theorem d_M_firstToken_21 : decode (mC m_M_firstToken) 21 = .ok (.aload_n 0, 1) := by decide +kernel
theorem d_M_firstToken_22 : decode (mC m_M_firstToken) 22 = .ok (.getfield 125, 3) := by decide +kernel
theorem d_M_firstToken_25 : decode (mC m_M_firstToken) 25 = .ok (.iload_n 2, 1) := by decide +kernel
theorem d_M_firstToken_26 : decode (mC m_M_firstToken) 26 = .ok (.iaload, 1) := by decide +kernel
theorem d_M_firstToken_27 : decode (mC m_M_firstToken) 27 = .ok (.iconst 0, 1) := by decide +kernel
theorem d_M_firstToken_28 : decode (mC m_M_firstToken) 28 = .ok (.aload_n 0, 1) := by decide +kernel
theorem d_M_firstToken_29 : decode (mC m_M_firstToken) 29 = .ok (.getfield 247, 3) := by decide +kernel
theorem d_M_firstToken_32 : decode (mC m_M_firstToken) 32 = .ok (.bipush (10), 2) := by decide +kernel
theorem d_M_firstToken_34 : decode (mC m_M_firstToken) 34 = .ok (.iadd, 1) := by decide +kernel
theorem d_M_firstToken_35 : decode (mC m_M_firstToken) 35 = .ok (.invokevirtual 364, 3) := by decide +kernel
theorem d_M_firstToken_38 : decode (mC m_M_firstToken) 38 = .ok (.pop, 1) := by decide +kernel
theorem d_M_firstToken_39 : decode (mC m_M_firstToken) 39 = .ok (.return_, 1) := by decide +kernel
theorem d_M_redeem_0 : decode (mC m_M_redeem) 0 = .ok (.iload_n 1, 1) := by decide +kernel
theorem d_M_redeem_1 : decode (mC m_M_redeem) 1 = .ok (.iconst 0, 1) := by decide +kernel
theorem d_M_redeem_2 : decode (mC m_M_redeem) 2 = .ok (.aload_n 0, 1) := by decide +kernel
theorem d_M_redeem_3 : decode (mC m_M_redeem) 3 = .ok (.getfield 361, 3) := by decide +kernel
theorem d_M_redeem_6 : decode (mC m_M_redeem) 6 = .ok (.iconst 1, 1) := by decide +kernel
theorem d_M_redeem_7 : decode (mC m_M_redeem) 7 = .ok (.isub, 1) := by decide +kernel
theorem d_M_redeem_8 : decode (mC m_M_redeem) 8 = .ok (.invokestatic 228, 3) := by decide +kernel
theorem d_M_redeem_11 : decode (mC m_M_redeem) 11 = .ok (.istore_n 2, 1) := by decide +kernel
theorem d_M_redeem_12 : decode (mC m_M_redeem) 12 = .ok (.iload_n 2, 1) := by decide +kernel
theorem d_M_redeem_13 : decode (mC m_M_redeem) 13 = .ok (.ifCond .eq (46), 3) := by decide +kernel
theorem d_M_redeem_16 : decode (mC m_M_redeem) 16 = .ok (.aload_n 0, 1) := by decide +kernel
theorem d_M_redeem_17 : decode (mC m_M_redeem) 17 = .ok (.getfield 131, 3) := by decide +kernel
theorem d_M_redeem_20 : decode (mC m_M_redeem) 20 = .ok (.iload_n 1, 1) := by decide +kernel
theorem d_M_redeem_21 : decode (mC m_M_redeem) 21 = .ok (.iaload, 1) := by decide +kernel
theorem d_M_redeem_22 : decode (mC m_M_redeem) 22 = .ok (.iconst (-1), 1) := by decide +kernel
theorem d_M_redeem_23 : decode (mC m_M_redeem) 23 = .ok (.if_icmp .ne (36), 3) := by decide +kernel
theorem d_M_redeem_26 : decode (mC m_M_redeem) 26 = .ok (.aload_n 0, 1) := by decide +kernel
theorem d_M_redeem_27 : decode (mC m_M_redeem) 27 = .ok (.getfield 247, 3) := by decide +kernel
theorem d_M_redeem_30 : decode (mC m_M_redeem) 30 = .ok (.aload_n 0, 1) := by decide +kernel
theorem d_M_redeem_31 : decode (mC m_M_redeem) 31 = .ok (.getfield 128, 3) := by decide +kernel
theorem d_M_redeem_34 : decode (mC m_M_redeem) 34 = .ok (.iload_n 1, 1) := by decide +kernel
theorem d_M_redeem_35 : decode (mC m_M_redeem) 35 = .ok (.iaload, 1) := by decide +kernel
theorem d_M_redeem_36 : decode (mC m_M_redeem) 36 = .ok (.isub, 1) := by decide +kernel
theorem d_M_redeem_37 : decode (mC m_M_redeem) 37 = .ok (.iconst 5, 1) := by decide +kernel
theorem d_M_redeem_38 : decode (mC m_M_redeem) 38 = .ok (.if_icmp .gt (21), 3) := by decide +kernel
theorem d_M_redeem_41 : decode (mC m_M_redeem) 41 = .ok (.aload_n 0, 1) := by decide +kernel
theorem d_M_redeem_42 : decode (mC m_M_redeem) 42 = .ok (.getfield 104, 3) := by decide +kernel
theorem d_M_redeem_45 : decode (mC m_M_redeem) 45 = .ok (.aload_n 0, 1) := by decide +kernel
theorem d_M_redeem_46 : decode (mC m_M_redeem) 46 = .ok (.getfield 116, 3) := by decide +kernel
theorem d_M_redeem_49 : decode (mC m_M_redeem) 49 = .ok (.iload_n 1, 1) := by decide +kernel
theorem d_M_redeem_50 : decode (mC m_M_redeem) 50 = .ok (.iaload, 1) := by decide +kernel
theorem d_M_redeem_51 : decode (mC m_M_redeem) 51 = .ok (.baload, 1) := by decide +kernel
theorem d_M_redeem_52 : decode (mC m_M_redeem) 52 = .ok (.ifCond .eq (7), 3) := by decide +kernel
theorem d_M_redeem_55 : decode (mC m_M_redeem) 55 = .ok (.iconst 1, 1) := by decide +kernel
theorem d_M_redeem_56 : decode (mC m_M_redeem) 56 = .ok (.goto (4), 3) := by decide +kernel
theorem d_M_redeem_59 : decode (mC m_M_redeem) 59 = .ok (.iconst 0, 1) := by decide +kernel
theorem d_M_redeem_60 : decode (mC m_M_redeem) 60 = .ok (.istore_n 3, 1) := by decide +kernel
theorem d_M_redeem_61 : decode (mC m_M_redeem) 61 = .ok (.aload_n 0, 1) := by decide +kernel
theorem d_M_redeem_62 : decode (mC m_M_redeem) 62 = .ok (.iload_n 2, 1) := by decide +kernel
theorem d_M_redeem_63 : decode (mC m_M_redeem) 63 = .ok (.iload_n 3, 1) := by decide +kernel
theorem d_M_redeem_64 : decode (mC m_M_redeem) 64 = .ok (.ifCond .eq (13), 3) := by decide +kernel
theorem d_M_redeem_67 : decode (mC m_M_redeem) 67 = .ok (.aload_n 0, 1) := by decide +kernel
theorem d_M_redeem_68 : decode (mC m_M_redeem) 68 = .ok (.getfield 241, 3) := by decide +kernel
theorem d_M_redeem_71 : decode (mC m_M_redeem) 71 = .ok (.sipush (200), 3) := by decide +kernel
theorem d_M_redeem_74 : decode (mC m_M_redeem) 74 = .ok (.if_icmp .ge (7), 3) := by decide +kernel
theorem d_M_redeem_77 : decode (mC m_M_redeem) 77 = .ok (.iconst 1, 1) := by decide +kernel
theorem d_M_redeem_78 : decode (mC m_M_redeem) 78 = .ok (.goto (4), 3) := by decide +kernel
theorem d_M_redeem_81 : decode (mC m_M_redeem) 81 = .ok (.iconst 0, 1) := by decide +kernel
theorem d_M_redeem_82 : decode (mC m_M_redeem) 82 = .ok (.invokevirtual 274, 3) := by decide +kernel
theorem d_M_redeem_85 : decode (mC m_M_redeem) 85 = .ok (.ifCond .ne (5), 3) := by decide +kernel
theorem d_M_redeem_88 : decode (mC m_M_redeem) 88 = .ok (.iconst 0, 1) := by decide +kernel
theorem d_M_redeem_89 : decode (mC m_M_redeem) 89 = .ok (.ireturn, 1) := by decide +kernel
theorem d_M_redeem_90 : decode (mC m_M_redeem) 90 = .ok (.iload_n 3, 1) := by decide +kernel
theorem d_M_redeem_91 : decode (mC m_M_redeem) 91 = .ok (.ifCond .ne (25), 3) := by decide +kernel
theorem d_M_redeem_94 : decode (mC m_M_redeem) 94 = .ok (.aload_n 0, 1) := by decide +kernel
theorem d_M_redeem_95 : decode (mC m_M_redeem) 95 = .ok (.getfield 131, 3) := by decide +kernel
theorem d_M_redeem_98 : decode (mC m_M_redeem) 98 = .ok (.iload_n 1, 1) := by decide +kernel
theorem d_M_redeem_99 : decode (mC m_M_redeem) 99 = .ok (.iaload, 1) := by decide +kernel
theorem d_M_redeem_100 : decode (mC m_M_redeem) 100 = .ok (.iconst (-1), 1) := by decide +kernel
theorem d_M_redeem_101 : decode (mC m_M_redeem) 101 = .ok (.if_icmp .eq (13), 3) := by decide +kernel
theorem d_M_redeem_104 : decode (mC m_M_redeem) 104 = .ok (.aload_n 0, 1) := by decide +kernel
theorem d_M_redeem_105 : decode (mC m_M_redeem) 105 = .ok (.aload_n 0, 1) := by decide +kernel
theorem d_M_redeem_106 : decode (mC m_M_redeem) 106 = .ok (.getfield 131, 3) := by decide +kernel
theorem d_M_redeem_109 : decode (mC m_M_redeem) 109 = .ok (.iload_n 1, 1) := by decide +kernel
theorem d_M_redeem_110 : decode (mC m_M_redeem) 110 = .ok (.iaload, 1) := by decide +kernel
theorem d_M_redeem_111 : decode (mC m_M_redeem) 111 = .ok (.invokevirtual 263, 3) := by decide +kernel
theorem d_M_redeem_114 : decode (mC m_M_redeem) 114 = .ok (.iconst (-1), 1) := by decide +kernel
theorem d_M_redeem_115 : decode (mC m_M_redeem) 115 = .ok (.ireturn, 1) := by decide +kernel
theorem d_M_redeem_116 : decode (mC m_M_redeem) 116 = .ok (.aload_n 0, 1) := by decide +kernel
theorem d_M_redeem_117 : decode (mC m_M_redeem) 117 = .ok (.getfield 238, 3) := by decide +kernel
theorem d_M_redeem_120 : decode (mC m_M_redeem) 120 = .ok (.istore 4, 2) := by decide +kernel
theorem d_M_redeem_122 : decode (mC m_M_redeem) 122 = .ok (.aload_n 0, 1) := by decide +kernel
theorem d_M_redeem_123 : decode (mC m_M_redeem) 123 = .ok (.getfield 134, 3) := by decide +kernel
theorem d_M_redeem_126 : decode (mC m_M_redeem) 126 = .ok (.iload 4, 2) := by decide +kernel
theorem d_M_redeem_128 : decode (mC m_M_redeem) 128 = .ok (.iload_n 1, 1) := by decide +kernel
theorem d_M_redeem_129 : decode (mC m_M_redeem) 129 = .ok (.iastore, 1) := by decide +kernel
theorem d_M_redeem_130 : decode (mC m_M_redeem) 130 = .ok (.aload_n 0, 1) := by decide +kernel
theorem d_M_redeem_131 : decode (mC m_M_redeem) 131 = .ok (.getfield 137, 3) := by decide +kernel
theorem d_M_redeem_134 : decode (mC m_M_redeem) 134 = .ok (.iload 4, 2) := by decide +kernel
theorem d_M_redeem_136 : decode (mC m_M_redeem) 136 = .ok (.iconst 0, 1) := by decide +kernel
theorem d_M_redeem_137 : decode (mC m_M_redeem) 137 = .ok (.iastore, 1) := by decide +kernel
theorem d_M_redeem_138 : decode (mC m_M_redeem) 138 = .ok (.aload_n 0, 1) := by decide +kernel
theorem d_M_redeem_139 : decode (mC m_M_redeem) 139 = .ok (.getfield 140, 3) := by decide +kernel
theorem d_M_redeem_142 : decode (mC m_M_redeem) 142 = .ok (.iload 4, 2) := by decide +kernel
theorem d_M_redeem_144 : decode (mC m_M_redeem) 144 = .ok (.aload_n 0, 1) := by decide +kernel
theorem d_M_redeem_145 : decode (mC m_M_redeem) 145 = .ok (.getfield 247, 3) := by decide +kernel
theorem d_M_redeem_148 : decode (mC m_M_redeem) 148 = .ok (.iastore, 1) := by decide +kernel
theorem d_M_redeem_149 : decode (mC m_M_redeem) 149 = .ok (.aload_n 0, 1) := by decide +kernel
theorem d_M_redeem_150 : decode (mC m_M_redeem) 150 = .ok (.getfield 146, 3) := by decide +kernel
theorem d_M_redeem_153 : decode (mC m_M_redeem) 153 = .ok (.iload 4, 2) := by decide +kernel
theorem d_M_redeem_155 : decode (mC m_M_redeem) 155 = .ok (.iconst 1, 1) := by decide +kernel
theorem d_M_redeem_156 : decode (mC m_M_redeem) 156 = .ok (.bastore, 1) := by decide +kernel
theorem d_M_redeem_157 : decode (mC m_M_redeem) 157 = .ok (.aload_n 0, 1) := by decide +kernel
theorem d_M_redeem_158 : decode (mC m_M_redeem) 158 = .ok (.getfield 131, 3) := by decide +kernel
theorem d_M_redeem_161 : decode (mC m_M_redeem) 161 = .ok (.iload_n 1, 1) := by decide +kernel
theorem d_M_redeem_162 : decode (mC m_M_redeem) 162 = .ok (.iload 4, 2) := by decide +kernel
theorem d_M_redeem_164 : decode (mC m_M_redeem) 164 = .ok (.iastore, 1) := by decide +kernel
theorem d_M_redeem_165 : decode (mC m_M_redeem) 165 = .ok (.aload_n 0, 1) := by decide +kernel
theorem d_M_redeem_166 : decode (mC m_M_redeem) 166 = .ok (.dup, 1) := by decide +kernel
theorem d_M_redeem_167 : decode (mC m_M_redeem) 167 = .ok (.getfield 238, 3) := by decide +kernel
theorem d_M_redeem_170 : decode (mC m_M_redeem) 170 = .ok (.iconst 1, 1) := by decide +kernel
theorem d_M_redeem_171 : decode (mC m_M_redeem) 171 = .ok (.iadd, 1) := by decide +kernel
theorem d_M_redeem_172 : decode (mC m_M_redeem) 172 = .ok (.putfield 238, 3) := by decide +kernel
theorem d_M_redeem_175 : decode (mC m_M_redeem) 175 = .ok (.aload_n 0, 1) := by decide +kernel
theorem d_M_redeem_176 : decode (mC m_M_redeem) 176 = .ok (.iconst 2, 1) := by decide +kernel
theorem d_M_redeem_177 : decode (mC m_M_redeem) 177 = .ok (.iload 4, 2) := by decide +kernel
theorem d_M_redeem_179 : decode (mC m_M_redeem) 179 = .ok (.invokevirtual 255, 3) := by decide +kernel
theorem d_M_redeem_182 : decode (mC m_M_redeem) 182 = .ok (.aload_n 0, 1) := by decide +kernel
theorem d_M_redeem_183 : decode (mC m_M_redeem) 183 = .ok (.iload 4, 2) := by decide +kernel
theorem d_M_redeem_185 : decode (mC m_M_redeem) 185 = .ok (.invokevirtual 368, 3) := by decide +kernel
theorem d_M_redeem_188 : decode (mC m_M_redeem) 188 = .ok (.iload 4, 2) := by decide +kernel
theorem d_M_redeem_190 : decode (mC m_M_redeem) 190 = .ok (.ireturn, 1) := by decide +kernel
theorem d_M_thrown_0 : decode (mC m_M_thrown) 0 = .ok (.aload_n 0, 1) := by decide +kernel
theorem d_M_thrown_1 : decode (mC m_M_thrown) 1 = .ok (.getfield 225, 3) := by decide +kernel
theorem d_M_thrown_4 : decode (mC m_M_thrown) 4 = .ok (.ireturn, 1) := by decide +kernel
theorem d_K_findFamily_0 : decode (mC m_K_findFamily) 0 = .ok (.iload_n 1, 1) := by decide +kernel
theorem d_K_findFamily_1 : decode (mC m_K_findFamily) 1 = .ok (.aload_n 0, 1) := by decide +kernel
theorem d_K_findFamily_2 : decode (mC m_K_findFamily) 2 = .ok (.getfield 61, 3) := by decide +kernel
theorem d_K_findFamily_5 : decode (mC m_K_findFamily) 5 = .ok (.invokevirtual 134, 3) := by decide +kernel
theorem d_K_findFamily_8 : decode (mC m_K_findFamily) 8 = .ok (.invokestatic 148, 3) := by decide +kernel
theorem d_K_findFamily_11 : decode (mC m_K_findFamily) 11 = .ok (.aload_n 0, 1) := by decide +kernel
theorem d_K_findFamily_12 : decode (mC m_K_findFamily) 12 = .ok (.getfield 61, 3) := by decide +kernel
theorem d_K_findFamily_15 : decode (mC m_K_findFamily) 15 = .ok (.iload_n 1, 1) := by decide +kernel
theorem d_K_findFamily_16 : decode (mC m_K_findFamily) 16 = .ok (.invokevirtual 152, 3) := by decide +kernel
theorem d_K_findFamily_19 : decode (mC m_K_findFamily) 19 = .ok (.checkcast 256, 3) := by decide +kernel
theorem d_K_findFamily_22 : decode (mC m_K_findFamily) 22 = .ok (.areturn, 1) := by decide +kernel
theorem d_K_rotate_0 : decode (mC m_K_rotate) 0 = .ok (.aload_n 1, 1) := by decide +kernel
theorem d_K_rotate_1 : decode (mC m_K_rotate) 1 = .ok (.dup, 1) := by decide +kernel
theorem d_K_rotate_2 : decode (mC m_K_rotate) 2 = .ok (.getfield 297, 3) := by decide +kernel
theorem d_K_rotate_5 : decode (mC m_K_rotate) 5 = .ok (.iconst 1, 1) := by decide +kernel
theorem d_K_rotate_6 : decode (mC m_K_rotate) 6 = .ok (.iadd, 1) := by decide +kernel
theorem d_K_rotate_7 : decode (mC m_K_rotate) 7 = .ok (.putfield 297, 3) := by decide +kernel
theorem d_K_rotate_10 : decode (mC m_K_rotate) 10 = .ok (.aload_n 1, 1) := by decide +kernel
theorem d_K_rotate_11 : decode (mC m_K_rotate) 11 = .ok (.aload_n 0, 1) := by decide +kernel
theorem d_K_rotate_12 : decode (mC m_K_rotate) 12 = .ok (.getfield 92, 3) := by decide +kernel
theorem d_K_rotate_15 : decode (mC m_K_rotate) 15 = .ok (.putfield 303, 3) := by decide +kernel
theorem d_K_rotate_18 : decode (mC m_K_rotate) 18 = .ok (.aload_n 1, 1) := by decide +kernel
theorem d_K_rotate_19 : decode (mC m_K_rotate) 19 = .ok (.getfield 261, 3) := by decide +kernel
theorem d_K_rotate_22 : decode (mC m_K_rotate) 22 = .ok (.aload_n 0, 1) := by decide +kernel
theorem d_K_rotate_23 : decode (mC m_K_rotate) 23 = .ok (.getfield 92, 3) := by decide +kernel
theorem d_K_rotate_26 : decode (mC m_K_rotate) 26 = .ok (.putfield 222, 3) := by decide +kernel
theorem d_K_rotate_29 : decode (mC m_K_rotate) 29 = .ok (.aload_n 0, 1) := by decide +kernel
theorem d_K_rotate_30 : decode (mC m_K_rotate) 30 = .ok (.aload_n 1, 1) := by decide +kernel
theorem d_K_rotate_31 : decode (mC m_K_rotate) 31 = .ok (.invokevirtual 550, 3) := by decide +kernel
theorem d_K_rotate_34 : decode (mC m_K_rotate) 34 = .ok (.return_, 1) := by decide +kernel
theorem d_K_refresh_0 : decode (mC m_K_refresh) 0 = .ok (.aload_n 0, 1) := by decide +kernel
theorem d_K_refresh_1 : decode (mC m_K_refresh) 1 = .ok (.iload_n 1, 1) := by decide +kernel
theorem d_K_refresh_2 : decode (mC m_K_refresh) 2 = .ok (.invokevirtual 293, 3) := by decide +kernel
theorem d_K_refresh_5 : decode (mC m_K_refresh) 5 = .ok (.astore_n 3, 1) := by decide +kernel
theorem d_K_refresh_6 : decode (mC m_K_refresh) 6 = .ok (.iload_n 2, 1) := by decide +kernel
theorem d_K_refresh_7 : decode (mC m_K_refresh) 7 = .ok (.iconst 0, 1) := by decide +kernel
theorem d_K_refresh_8 : decode (mC m_K_refresh) 8 = .ok (.aload_n 3, 1) := by decide +kernel
theorem d_K_refresh_9 : decode (mC m_K_refresh) 9 = .ok (.getfield 297, 3) := by decide +kernel
theorem d_K_refresh_12 : decode (mC m_K_refresh) 12 = .ok (.invokestatic 84, 3) := by decide +kernel
theorem d_K_refresh_15 : decode (mC m_K_refresh) 15 = .ok (.invokestatic 88, 3) := by decide +kernel
theorem d_K_refresh_18 : decode (mC m_K_refresh) 18 = .ok (.aload_n 3, 1) := by decide +kernel
theorem d_K_refresh_19 : decode (mC m_K_refresh) 19 = .ok (.getfield 258, 3) := by decide +kernel
theorem d_K_refresh_22 : decode (mC m_K_refresh) 22 = .ok (.ifCond .eq (13), 3) := by decide +kernel
theorem d_K_refresh_25 : decode (mC m_K_refresh) 25 = .ok (.aload_n 3, 1) := by decide +kernel
theorem d_K_refresh_26 : decode (mC m_K_refresh) 26 = .ok (.getfield 261, 3) := by decide +kernel
theorem d_K_refresh_29 : decode (mC m_K_refresh) 29 = .ok (.getfield 206, 3) := by decide +kernel
theorem d_K_refresh_32 : decode (mC m_K_refresh) 32 = .ok (.ifCond .ne (5), 3) := by decide +kernel
theorem d_K_refresh_35 : decode (mC m_K_refresh) 35 = .ok (.iconst (-1), 1) := by decide +kernel
theorem d_K_refresh_36 : decode (mC m_K_refresh) 36 = .ok (.ireturn, 1) := by decide +kernel
theorem d_K_refresh_37 : decode (mC m_K_refresh) 37 = .ok (.iload_n 2, 1) := by decide +kernel
theorem d_K_refresh_38 : decode (mC m_K_refresh) 38 = .ok (.aload_n 3, 1) := by decide +kernel
theorem d_K_refresh_39 : decode (mC m_K_refresh) 39 = .ok (.getfield 297, 3) := by decide +kernel
theorem d_K_refresh_42 : decode (mC m_K_refresh) 42 = .ok (.if_icmp .ne (34), 3) := by decide +kernel
theorem d_K_refresh_45 : decode (mC m_K_refresh) 45 = .ok (.aload_n 0, 1) := by decide +kernel
theorem d_K_refresh_46 : decode (mC m_K_refresh) 46 = .ok (.getfield 64, 3) := by decide +kernel
theorem d_K_refresh_49 : decode (mC m_K_refresh) 49 = .ok (.invokevirtual 134, 3) := by decide +kernel
theorem d_K_refresh_52 : decode (mC m_K_refresh) 52 = .ok (.sipush (200), 3) := by decide +kernel
theorem d_K_refresh_55 : decode (mC m_K_refresh) 55 = .ok (.if_icmp .ge (7), 3) := by decide +kernel
theorem d_K_refresh_58 : decode (mC m_K_refresh) 58 = .ok (.iconst 1, 1) := by decide +kernel
theorem d_K_refresh_59 : decode (mC m_K_refresh) 59 = .ok (.goto (4), 3) := by decide +kernel
theorem d_K_refresh_62 : decode (mC m_K_refresh) 62 = .ok (.iconst 0, 1) := by decide +kernel
theorem d_K_refresh_63 : decode (mC m_K_refresh) 63 = .ok (.invokestatic 96, 3) := by decide +kernel
theorem d_K_refresh_66 : decode (mC m_K_refresh) 66 = .ok (.aload_n 0, 1) := by decide +kernel
theorem d_K_refresh_67 : decode (mC m_K_refresh) 67 = .ok (.aload_n 3, 1) := by decide +kernel
theorem d_K_refresh_68 : decode (mC m_K_refresh) 68 = .ok (.invokevirtual 300, 3) := by decide +kernel
theorem d_K_refresh_71 : decode (mC m_K_refresh) 71 = .ok (.aload_n 3, 1) := by decide +kernel
theorem d_K_refresh_72 : decode (mC m_K_refresh) 72 = .ok (.getfield 297, 3) := by decide +kernel
theorem d_K_refresh_75 : decode (mC m_K_refresh) 75 = .ok (.ireturn, 1) := by decide +kernel
theorem d_K_refresh_76 : decode (mC m_K_refresh) 76 = .ok (.iload_n 2, 1) := by decide +kernel
theorem d_K_refresh_77 : decode (mC m_K_refresh) 77 = .ok (.aload_n 3, 1) := by decide +kernel
theorem d_K_refresh_78 : decode (mC m_K_refresh) 78 = .ok (.getfield 297, 3) := by decide +kernel
theorem d_K_refresh_81 : decode (mC m_K_refresh) 81 = .ok (.iconst 1, 1) := by decide +kernel
theorem d_K_refresh_82 : decode (mC m_K_refresh) 82 = .ok (.isub, 1) := by decide +kernel
theorem d_K_refresh_83 : decode (mC m_K_refresh) 83 = .ok (.if_icmp .ne (21), 3) := by decide +kernel
theorem d_K_refresh_86 : decode (mC m_K_refresh) 86 = .ok (.aload_n 0, 1) := by decide +kernel
theorem d_K_refresh_87 : decode (mC m_K_refresh) 87 = .ok (.getfield 92, 3) := by decide +kernel
theorem d_K_refresh_90 : decode (mC m_K_refresh) 90 = .ok (.aload_n 3, 1) := by decide +kernel
theorem d_K_refresh_91 : decode (mC m_K_refresh) 91 = .ok (.getfield 303, 3) := by decide +kernel
theorem d_K_refresh_94 : decode (mC m_K_refresh) 94 = .ok (.isub, 1) := by decide +kernel
theorem d_K_refresh_95 : decode (mC m_K_refresh) 95 = .ok (.iconst 1, 1) := by decide +kernel
theorem d_K_refresh_96 : decode (mC m_K_refresh) 96 = .ok (.if_icmp .gt (8), 3) := by decide +kernel
theorem d_K_refresh_99 : decode (mC m_K_refresh) 99 = .ok (.aload_n 3, 1) := by decide +kernel
theorem d_K_refresh_100 : decode (mC m_K_refresh) 100 = .ok (.getfield 297, 3) := by decide +kernel
theorem d_K_refresh_103 : decode (mC m_K_refresh) 103 = .ok (.ireturn, 1) := by decide +kernel
theorem d_K_refresh_104 : decode (mC m_K_refresh) 104 = .ok (.aload_n 0, 1) := by decide +kernel
theorem d_K_refresh_105 : decode (mC m_K_refresh) 105 = .ok (.aload_n 3, 1) := by decide +kernel
theorem d_K_refresh_106 : decode (mC m_K_refresh) 106 = .ok (.invokevirtual 266, 3) := by decide +kernel
theorem d_K_refresh_109 : decode (mC m_K_refresh) 109 = .ok (.iconst (-1), 1) := by decide +kernel
theorem d_K_refresh_110 : decode (mC m_K_refresh) 110 = .ok (.ireturn, 1) := by decide +kernel
theorem d_W_refresh_0 : decode (mC m_W_refresh) 0 = .ok (.aload_n 3, 1) := by decide +kernel
theorem d_W_refresh_1 : decode (mC m_W_refresh) 1 = .ok (.iconst 0, 1) := by decide +kernel
theorem d_W_refresh_2 : decode (mC m_W_refresh) 2 = .ok (.aload_n 0, 1) := by decide +kernel
theorem d_W_refresh_3 : decode (mC m_W_refresh) 3 = .ok (.iload_n 1, 1) := by decide +kernel
theorem d_W_refresh_4 : decode (mC m_W_refresh) 4 = .ok (.iload_n 2, 1) := by decide +kernel
theorem d_W_refresh_5 : decode (mC m_W_refresh) 5 = .ok (.invokevirtual 103, 3) := by decide +kernel
theorem d_W_refresh_8 : decode (mC m_W_refresh) 8 = .ok (.i2l, 1) := by decide +kernel
theorem d_W_refresh_9 : decode (mC m_W_refresh) 9 = .ok (.lastore, 1) := by decide +kernel
theorem d_W_refresh_10 : decode (mC m_W_refresh) 10 = .ok (.goto (15), 3) := by decide +kernel
theorem d_W_refresh_13 : decode (mC m_W_refresh) 13 = .ok (.astore 4, 2) := by decide +kernel
theorem d_W_refresh_15 : decode (mC m_W_refresh) 15 = .ok (.iconst 1, 1) := by decide +kernel
theorem d_W_refresh_16 : decode (mC m_W_refresh) 16 = .ok (.ireturn, 1) := by decide +kernel
theorem d_W_refresh_17 : decode (mC m_W_refresh) 17 = .ok (.astore 4, 2) := by decide +kernel
theorem d_W_refresh_19 : decode (mC m_W_refresh) 19 = .ok (.iconst 2, 1) := by decide +kernel
theorem d_W_refresh_20 : decode (mC m_W_refresh) 20 = .ok (.ireturn, 1) := by decide +kernel
theorem d_W_refresh_21 : decode (mC m_W_refresh) 21 = .ok (.astore 4, 2) := by decide +kernel
theorem d_W_refresh_23 : decode (mC m_W_refresh) 23 = .ok (.iconst 3, 1) := by decide +kernel
theorem d_W_refresh_24 : decode (mC m_W_refresh) 24 = .ok (.ireturn, 1) := by decide +kernel
theorem d_W_refresh_25 : decode (mC m_W_refresh) 25 = .ok (.iconst 0, 1) := by decide +kernel
theorem d_W_refresh_26 : decode (mC m_W_refresh) 26 = .ok (.ireturn, 1) := by decide +kernel
theorem d_M_isFamily_0 : decode (mC m_M_isFamily) 0 = .ok (.iload_n 1, 1) := by decide +kernel
theorem d_M_isFamily_1 : decode (mC m_M_isFamily) 1 = .ok (.iconst 0, 1) := by decide +kernel
theorem d_M_isFamily_2 : decode (mC m_M_isFamily) 2 = .ok (.aload_n 0, 1) := by decide +kernel
theorem d_M_isFamily_3 : decode (mC m_M_isFamily) 3 = .ok (.getfield 238, 3) := by decide +kernel
theorem d_M_isFamily_6 : decode (mC m_M_isFamily) 6 = .ok (.iconst 1, 1) := by decide +kernel
theorem d_M_isFamily_7 : decode (mC m_M_isFamily) 7 = .ok (.isub, 1) := by decide +kernel
theorem d_M_isFamily_8 : decode (mC m_M_isFamily) 8 = .ok (.invokestatic 228, 3) := by decide +kernel
theorem d_M_isFamily_11 : decode (mC m_M_isFamily) 11 = .ok (.ireturn, 1) := by decide +kernel
theorem d_M_refresh_0 : decode (mC m_M_refresh) 0 = .ok (.aload_n 0, 1) := by decide +kernel
theorem d_M_refresh_1 : decode (mC m_M_refresh) 1 = .ok (.iload_n 1, 1) := by decide +kernel
theorem d_M_refresh_2 : decode (mC m_M_refresh) 2 = .ok (.invokevirtual 371, 3) := by decide +kernel
theorem d_M_refresh_5 : decode (mC m_M_refresh) 5 = .ok (.istore_n 3, 1) := by decide +kernel
theorem d_M_refresh_6 : decode (mC m_M_refresh) 6 = .ok (.iload_n 3, 1) := by decide +kernel
theorem d_M_refresh_7 : decode (mC m_M_refresh) 7 = .ok (.ifCond .eq (21), 3) := by decide +kernel
theorem d_M_refresh_10 : decode (mC m_M_refresh) 10 = .ok (.iload_n 2, 1) := by decide +kernel
theorem d_M_refresh_11 : decode (mC m_M_refresh) 11 = .ok (.iconst 0, 1) := by decide +kernel
theorem d_M_refresh_12 : decode (mC m_M_refresh) 12 = .ok (.aload_n 0, 1) := by decide +kernel
theorem d_M_refresh_13 : decode (mC m_M_refresh) 13 = .ok (.getfield 137, 3) := by decide +kernel
theorem d_M_refresh_16 : decode (mC m_M_refresh) 16 = .ok (.iload_n 1, 1) := by decide +kernel
theorem d_M_refresh_17 : decode (mC m_M_refresh) 17 = .ok (.iaload, 1) := by decide +kernel
theorem d_M_refresh_18 : decode (mC m_M_refresh) 18 = .ok (.invokestatic 228, 3) := by decide +kernel
theorem d_M_refresh_21 : decode (mC m_M_refresh) 21 = .ok (.ifCond .eq (7), 3) := by decide +kernel
theorem d_M_refresh_24 : decode (mC m_M_refresh) 24 = .ok (.iconst 1, 1) := by decide +kernel
theorem d_M_refresh_25 : decode (mC m_M_refresh) 25 = .ok (.goto (4), 3) := by decide +kernel
theorem d_M_refresh_28 : decode (mC m_M_refresh) 28 = .ok (.iconst 0, 1) := by decide +kernel
theorem d_M_refresh_29 : decode (mC m_M_refresh) 29 = .ok (.istore 4, 2) := by decide +kernel
theorem d_M_refresh_31 : decode (mC m_M_refresh) 31 = .ok (.iload_n 3, 1) := by decide +kernel
theorem d_M_refresh_32 : decode (mC m_M_refresh) 32 = .ok (.ifCond .eq (35), 3) := by decide +kernel
theorem d_M_refresh_35 : decode (mC m_M_refresh) 35 = .ok (.aload_n 0, 1) := by decide +kernel
theorem d_M_refresh_36 : decode (mC m_M_refresh) 36 = .ok (.getfield 146, 3) := by decide +kernel
theorem d_M_refresh_39 : decode (mC m_M_refresh) 39 = .ok (.iload_n 1, 1) := by decide +kernel
theorem d_M_refresh_40 : decode (mC m_M_refresh) 40 = .ok (.baload, 1) := by decide +kernel
theorem d_M_refresh_41 : decode (mC m_M_refresh) 41 = .ok (.ifCond .eq (26), 3) := by decide +kernel
theorem d_M_refresh_44 : decode (mC m_M_refresh) 44 = .ok (.aload_n 0, 1) := by decide +kernel
theorem d_M_refresh_45 : decode (mC m_M_refresh) 45 = .ok (.getfield 104, 3) := by decide +kernel
theorem d_M_refresh_48 : decode (mC m_M_refresh) 48 = .ok (.aload_n 0, 1) := by decide +kernel
theorem d_M_refresh_49 : decode (mC m_M_refresh) 49 = .ok (.getfield 116, 3) := by decide +kernel
theorem d_M_refresh_52 : decode (mC m_M_refresh) 52 = .ok (.aload_n 0, 1) := by decide +kernel
theorem d_M_refresh_53 : decode (mC m_M_refresh) 53 = .ok (.getfield 134, 3) := by decide +kernel
theorem d_M_refresh_56 : decode (mC m_M_refresh) 56 = .ok (.iload_n 1, 1) := by decide +kernel
theorem d_M_refresh_57 : decode (mC m_M_refresh) 57 = .ok (.iaload, 1) := by decide +kernel
theorem d_M_refresh_58 : decode (mC m_M_refresh) 58 = .ok (.iaload, 1) := by decide +kernel
theorem d_M_refresh_59 : decode (mC m_M_refresh) 59 = .ok (.baload, 1) := by decide +kernel
theorem d_M_refresh_60 : decode (mC m_M_refresh) 60 = .ok (.ifCond .eq (7), 3) := by decide +kernel
theorem d_M_refresh_63 : decode (mC m_M_refresh) 63 = .ok (.iconst 1, 1) := by decide +kernel
theorem d_M_refresh_64 : decode (mC m_M_refresh) 64 = .ok (.goto (4), 3) := by decide +kernel
theorem d_M_refresh_67 : decode (mC m_M_refresh) 67 = .ok (.iconst 0, 1) := by decide +kernel
theorem d_M_refresh_68 : decode (mC m_M_refresh) 68 = .ok (.istore 5, 2) := by decide +kernel
theorem d_M_refresh_70 : decode (mC m_M_refresh) 70 = .ok (.iload 4, 2) := by decide +kernel
theorem d_M_refresh_72 : decode (mC m_M_refresh) 72 = .ok (.ifCond .eq (22), 3) := by decide +kernel
theorem d_M_refresh_75 : decode (mC m_M_refresh) 75 = .ok (.iload 5, 2) := by decide +kernel
theorem d_M_refresh_77 : decode (mC m_M_refresh) 77 = .ok (.ifCond .eq (17), 3) := by decide +kernel
theorem d_M_refresh_80 : decode (mC m_M_refresh) 80 = .ok (.iload_n 2, 1) := by decide +kernel
theorem d_M_refresh_81 : decode (mC m_M_refresh) 81 = .ok (.aload_n 0, 1) := by decide +kernel
theorem d_M_refresh_82 : decode (mC m_M_refresh) 82 = .ok (.getfield 137, 3) := by decide +kernel
theorem d_M_refresh_85 : decode (mC m_M_refresh) 85 = .ok (.iload_n 1, 1) := by decide +kernel
theorem d_M_refresh_86 : decode (mC m_M_refresh) 86 = .ok (.iaload, 1) := by decide +kernel
theorem d_M_refresh_87 : decode (mC m_M_refresh) 87 = .ok (.if_icmp .ne (7), 3) := by decide +kernel
theorem d_M_refresh_90 : decode (mC m_M_refresh) 90 = .ok (.iconst 1, 1) := by decide +kernel
theorem d_M_refresh_91 : decode (mC m_M_refresh) 91 = .ok (.goto (4), 3) := by decide +kernel
theorem d_M_refresh_94 : decode (mC m_M_refresh) 94 = .ok (.iconst 0, 1) := by decide +kernel
theorem d_M_refresh_95 : decode (mC m_M_refresh) 95 = .ok (.istore 6, 2) := by decide +kernel
theorem d_M_refresh_97 : decode (mC m_M_refresh) 97 = .ok (.aload_n 0, 1) := by decide +kernel
theorem d_M_refresh_98 : decode (mC m_M_refresh) 98 = .ok (.iload_n 3, 1) := by decide +kernel
theorem d_M_refresh_99 : decode (mC m_M_refresh) 99 = .ok (.iload 4, 2) := by decide +kernel
theorem d_M_refresh_101 : decode (mC m_M_refresh) 101 = .ok (.iload 6, 2) := by decide +kernel
theorem d_M_refresh_103 : decode (mC m_M_refresh) 103 = .ok (.ifCond .eq (13), 3) := by decide +kernel
theorem d_M_refresh_106 : decode (mC m_M_refresh) 106 = .ok (.aload_n 0, 1) := by decide +kernel
theorem d_M_refresh_107 : decode (mC m_M_refresh) 107 = .ok (.getfield 241, 3) := by decide +kernel
theorem d_M_refresh_110 : decode (mC m_M_refresh) 110 = .ok (.sipush (200), 3) := by decide +kernel
theorem d_M_refresh_113 : decode (mC m_M_refresh) 113 = .ok (.if_icmp .ge (7), 3) := by decide +kernel
theorem d_M_refresh_116 : decode (mC m_M_refresh) 116 = .ok (.iconst 1, 1) := by decide +kernel
theorem d_M_refresh_117 : decode (mC m_M_refresh) 117 = .ok (.goto (4), 3) := by decide +kernel
theorem d_M_refresh_120 : decode (mC m_M_refresh) 120 = .ok (.iconst 0, 1) := by decide +kernel
theorem d_M_refresh_121 : decode (mC m_M_refresh) 121 = .ok (.invokevirtual 344, 3) := by decide +kernel
theorem d_M_refresh_124 : decode (mC m_M_refresh) 124 = .ok (.ifCond .ne (5), 3) := by decide +kernel
theorem d_M_refresh_127 : decode (mC m_M_refresh) 127 = .ok (.iconst 0, 1) := by decide +kernel
theorem d_M_refresh_128 : decode (mC m_M_refresh) 128 = .ok (.ireturn, 1) := by decide +kernel
theorem d_M_refresh_129 : decode (mC m_M_refresh) 129 = .ok (.iload 5, 2) := by decide +kernel
theorem d_M_refresh_131 : decode (mC m_M_refresh) 131 = .ok (.ifCond .ne (5), 3) := by decide +kernel
theorem d_M_refresh_134 : decode (mC m_M_refresh) 134 = .ok (.iconst (-1), 1) := by decide +kernel
theorem d_M_refresh_135 : decode (mC m_M_refresh) 135 = .ok (.ireturn, 1) := by decide +kernel
theorem d_M_refresh_136 : decode (mC m_M_refresh) 136 = .ok (.iload 6, 2) := by decide +kernel
theorem d_M_refresh_138 : decode (mC m_M_refresh) 138 = .ok (.ifCond .eq (55), 3) := by decide +kernel
theorem d_M_refresh_141 : decode (mC m_M_refresh) 141 = .ok (.aload_n 0, 1) := by decide +kernel
theorem d_M_refresh_142 : decode (mC m_M_refresh) 142 = .ok (.getfield 137, 3) := by decide +kernel
theorem d_M_refresh_145 : decode (mC m_M_refresh) 145 = .ok (.iload_n 1, 1) := by decide +kernel
theorem d_M_refresh_146 : decode (mC m_M_refresh) 146 = .ok (.dup2, 1) := by decide +kernel
theorem d_M_refresh_147 : decode (mC m_M_refresh) 147 = .ok (.iaload, 1) := by decide +kernel
theorem d_M_refresh_148 : decode (mC m_M_refresh) 148 = .ok (.iconst 1, 1) := by decide +kernel
theorem d_M_refresh_149 : decode (mC m_M_refresh) 149 = .ok (.iadd, 1) := by decide +kernel
theorem d_M_refresh_150 : decode (mC m_M_refresh) 150 = .ok (.iastore, 1) := by decide +kernel
theorem d_M_refresh_151 : decode (mC m_M_refresh) 151 = .ok (.aload_n 0, 1) := by decide +kernel
theorem d_M_refresh_152 : decode (mC m_M_refresh) 152 = .ok (.getfield 140, 3) := by decide +kernel
theorem d_M_refresh_155 : decode (mC m_M_refresh) 155 = .ok (.iload_n 1, 1) := by decide +kernel
theorem d_M_refresh_156 : decode (mC m_M_refresh) 156 = .ok (.aload_n 0, 1) := by decide +kernel
theorem d_M_refresh_157 : decode (mC m_M_refresh) 157 = .ok (.getfield 247, 3) := by decide +kernel
theorem d_M_refresh_160 : decode (mC m_M_refresh) 160 = .ok (.iastore, 1) := by decide +kernel
theorem d_M_refresh_161 : decode (mC m_M_refresh) 161 = .ok (.aload_n 0, 1) := by decide +kernel
theorem d_M_refresh_162 : decode (mC m_M_refresh) 162 = .ok (.iload_n 1, 1) := by decide +kernel
theorem d_M_refresh_163 : decode (mC m_M_refresh) 163 = .ok (.invokevirtual 368, 3) := by decide +kernel
theorem d_M_refresh_166 : decode (mC m_M_refresh) 166 = .ok (.aload_n 0, 1) := by decide +kernel
theorem d_M_refresh_167 : decode (mC m_M_refresh) 167 = .ok (.getfield 98, 3) := by decide +kernel
theorem d_M_refresh_170 : decode (mC m_M_refresh) 170 = .ok (.aload_n 0, 1) := by decide +kernel
theorem d_M_refresh_171 : decode (mC m_M_refresh) 171 = .ok (.getfield 116, 3) := by decide +kernel
theorem d_M_refresh_174 : decode (mC m_M_refresh) 174 = .ok (.aload_n 0, 1) := by decide +kernel
theorem d_M_refresh_175 : decode (mC m_M_refresh) 175 = .ok (.getfield 134, 3) := by decide +kernel
theorem d_M_refresh_178 : decode (mC m_M_refresh) 178 = .ok (.iload_n 1, 1) := by decide +kernel
theorem d_M_refresh_179 : decode (mC m_M_refresh) 179 = .ok (.iaload, 1) := by decide +kernel
theorem d_M_refresh_180 : decode (mC m_M_refresh) 180 = .ok (.iaload, 1) := by decide +kernel
theorem d_M_refresh_181 : decode (mC m_M_refresh) 181 = .ok (.aload_n 0, 1) := by decide +kernel
theorem d_M_refresh_182 : decode (mC m_M_refresh) 182 = .ok (.getfield 247, 3) := by decide +kernel
theorem d_M_refresh_185 : decode (mC m_M_refresh) 185 = .ok (.iastore, 1) := by decide +kernel
theorem d_M_refresh_186 : decode (mC m_M_refresh) 186 = .ok (.aload_n 0, 1) := by decide +kernel
theorem d_M_refresh_187 : decode (mC m_M_refresh) 187 = .ok (.getfield 137, 3) := by decide +kernel
theorem d_M_refresh_190 : decode (mC m_M_refresh) 190 = .ok (.iload_n 1, 1) := by decide +kernel
theorem d_M_refresh_191 : decode (mC m_M_refresh) 191 = .ok (.iaload, 1) := by decide +kernel
theorem d_M_refresh_192 : decode (mC m_M_refresh) 192 = .ok (.ireturn, 1) := by decide +kernel
theorem d_M_refresh_193 : decode (mC m_M_refresh) 193 = .ok (.iload_n 2, 1) := by decide +kernel
theorem d_M_refresh_194 : decode (mC m_M_refresh) 194 = .ok (.aload_n 0, 1) := by decide +kernel
theorem d_M_refresh_195 : decode (mC m_M_refresh) 195 = .ok (.getfield 137, 3) := by decide +kernel
theorem d_M_refresh_198 : decode (mC m_M_refresh) 198 = .ok (.iload_n 1, 1) := by decide +kernel
theorem d_M_refresh_199 : decode (mC m_M_refresh) 199 = .ok (.iaload, 1) := by decide +kernel
theorem d_M_refresh_200 : decode (mC m_M_refresh) 200 = .ok (.iconst 1, 1) := by decide +kernel
theorem d_M_refresh_201 : decode (mC m_M_refresh) 201 = .ok (.isub, 1) := by decide +kernel
theorem d_M_refresh_202 : decode (mC m_M_refresh) 202 = .ok (.if_icmp .ne (25), 3) := by decide +kernel
theorem d_M_refresh_205 : decode (mC m_M_refresh) 205 = .ok (.aload_n 0, 1) := by decide +kernel
theorem d_M_refresh_206 : decode (mC m_M_refresh) 206 = .ok (.getfield 247, 3) := by decide +kernel
theorem d_M_refresh_209 : decode (mC m_M_refresh) 209 = .ok (.aload_n 0, 1) := by decide +kernel
theorem d_M_refresh_210 : decode (mC m_M_refresh) 210 = .ok (.getfield 140, 3) := by decide +kernel
theorem d_M_refresh_213 : decode (mC m_M_refresh) 213 = .ok (.iload_n 1, 1) := by decide +kernel
theorem d_M_refresh_214 : decode (mC m_M_refresh) 214 = .ok (.iaload, 1) := by decide +kernel
theorem d_M_refresh_215 : decode (mC m_M_refresh) 215 = .ok (.isub, 1) := by decide +kernel
theorem d_M_refresh_216 : decode (mC m_M_refresh) 216 = .ok (.iconst 1, 1) := by decide +kernel
theorem d_M_refresh_217 : decode (mC m_M_refresh) 217 = .ok (.if_icmp .gt (10), 3) := by decide +kernel
theorem d_M_refresh_220 : decode (mC m_M_refresh) 220 = .ok (.aload_n 0, 1) := by decide +kernel
theorem d_M_refresh_221 : decode (mC m_M_refresh) 221 = .ok (.getfield 137, 3) := by decide +kernel
theorem d_M_refresh_224 : decode (mC m_M_refresh) 224 = .ok (.iload_n 1, 1) := by decide +kernel
theorem d_M_refresh_225 : decode (mC m_M_refresh) 225 = .ok (.iaload, 1) := by decide +kernel
theorem d_M_refresh_226 : decode (mC m_M_refresh) 226 = .ok (.ireturn, 1) := by decide +kernel
theorem d_M_refresh_227 : decode (mC m_M_refresh) 227 = .ok (.aload_n 0, 1) := by decide +kernel
theorem d_M_refresh_228 : decode (mC m_M_refresh) 228 = .ok (.iload_n 1, 1) := by decide +kernel
theorem d_M_refresh_229 : decode (mC m_M_refresh) 229 = .ok (.invokevirtual 263, 3) := by decide +kernel
theorem d_M_refresh_232 : decode (mC m_M_refresh) 232 = .ok (.iconst (-1), 1) := by decide +kernel
theorem d_M_refresh_233 : decode (mC m_M_refresh) 233 = .ok (.ireturn, 1) := by decide +kernel
theorem d_K_isGood_0 : decode (mC m_K_isGood) 0 = .ok (.aload_n 0, 1) := by decide +kernel
theorem d_K_isGood_1 : decode (mC m_K_isGood) 1 = .ok (.iload_n 1, 1) := by decide +kernel
theorem d_K_isGood_2 : decode (mC m_K_isGood) 2 = .ok (.invokevirtual 293, 3) := by decide +kernel
theorem d_K_isGood_5 : decode (mC m_K_isGood) 5 = .ok (.getfield 258, 3) := by decide +kernel
theorem d_K_isGood_8 : decode (mC m_K_isGood) 8 = .ok (.ireturn, 1) := by decide +kernel
theorem d_W_isGood_0 : decode (mC m_W_isGood) 0 = .ok (.aload_n 2, 1) := by decide +kernel
theorem d_W_isGood_1 : decode (mC m_W_isGood) 1 = .ok (.iconst 0, 1) := by decide +kernel
theorem d_W_isGood_2 : decode (mC m_W_isGood) 2 = .ok (.aload_n 0, 1) := by decide +kernel
theorem d_W_isGood_3 : decode (mC m_W_isGood) 3 = .ok (.iload_n 1, 1) := by decide +kernel
theorem d_W_isGood_4 : decode (mC m_W_isGood) 4 = .ok (.invokevirtual 106, 3) := by decide +kernel
theorem d_W_isGood_7 : decode (mC m_W_isGood) 7 = .ok (.ifCond .eq (7), 3) := by decide +kernel
theorem d_W_isGood_10 : decode (mC m_W_isGood) 10 = .ok (.lconst 1, 1) := by decide +kernel
theorem d_W_isGood_11 : decode (mC m_W_isGood) 11 = .ok (.goto (4), 3) := by decide +kernel
theorem d_W_isGood_14 : decode (mC m_W_isGood) 14 = .ok (.lconst 0, 1) := by decide +kernel
theorem d_W_isGood_15 : decode (mC m_W_isGood) 15 = .ok (.lastore, 1) := by decide +kernel
theorem d_W_isGood_16 : decode (mC m_W_isGood) 16 = .ok (.goto (6), 3) := by decide +kernel
theorem d_W_isGood_19 : decode (mC m_W_isGood) 19 = .ok (.astore_n 3, 1) := by decide +kernel
theorem d_W_isGood_20 : decode (mC m_W_isGood) 20 = .ok (.iconst 1, 1) := by decide +kernel
theorem d_W_isGood_21 : decode (mC m_W_isGood) 21 = .ok (.ireturn, 1) := by decide +kernel
theorem d_W_isGood_22 : decode (mC m_W_isGood) 22 = .ok (.iconst 0, 1) := by decide +kernel
theorem d_W_isGood_23 : decode (mC m_W_isGood) 23 = .ok (.ireturn, 1) := by decide +kernel
theorem d_M_isGood_0 : decode (mC m_M_isGood) 0 = .ok (.aload_n 0, 1) := by decide +kernel
theorem d_M_isGood_1 : decode (mC m_M_isGood) 1 = .ok (.aload_n 0, 1) := by decide +kernel
theorem d_M_isGood_2 : decode (mC m_M_isGood) 2 = .ok (.iload_n 1, 1) := by decide +kernel
theorem d_M_isGood_3 : decode (mC m_M_isGood) 3 = .ok (.invokevirtual 371, 3) := by decide +kernel
theorem d_M_isGood_6 : decode (mC m_M_isGood) 6 = .ok (.invokevirtual 251, 3) := by decide +kernel
theorem d_M_isGood_9 : decode (mC m_M_isGood) 9 = .ok (.ifCond .eq (16), 3) := by decide +kernel
theorem d_M_isGood_12 : decode (mC m_M_isGood) 12 = .ok (.aload_n 0, 1) := by decide +kernel
theorem d_M_isGood_13 : decode (mC m_M_isGood) 13 = .ok (.getfield 146, 3) := by decide +kernel
theorem d_M_isGood_16 : decode (mC m_M_isGood) 16 = .ok (.iload_n 1, 1) := by decide +kernel
theorem d_M_isGood_17 : decode (mC m_M_isGood) 17 = .ok (.baload, 1) := by decide +kernel
theorem d_M_isGood_18 : decode (mC m_M_isGood) 18 = .ok (.ifCond .eq (7), 3) := by decide +kernel
theorem d_M_isGood_21 : decode (mC m_M_isGood) 21 = .ok (.iconst 1, 1) := by decide +kernel
theorem d_M_isGood_22 : decode (mC m_M_isGood) 22 = .ok (.goto (4), 3) := by decide +kernel
theorem d_M_isGood_25 : decode (mC m_M_isGood) 25 = .ok (.iconst 0, 1) := by decide +kernel
theorem d_M_isGood_26 : decode (mC m_M_isGood) 26 = .ok (.ireturn, 1) := by decide +kernel
theorem d_K_tokenOf_0 : decode (mC m_K_tokenOf) 0 = .ok (.aload_n 0, 1) := by decide +kernel
theorem d_K_tokenOf_1 : decode (mC m_K_tokenOf) 1 = .ok (.iload_n 1, 1) := by decide +kernel
theorem d_K_tokenOf_2 : decode (mC m_K_tokenOf) 2 = .ok (.invokevirtual 293, 3) := by decide +kernel
theorem d_K_tokenOf_5 : decode (mC m_K_tokenOf) 5 = .ok (.getfield 306, 3) := by decide +kernel
theorem d_K_tokenOf_8 : decode (mC m_K_tokenOf) 8 = .ok (.ireturn, 1) := by decide +kernel
theorem d_W_tokenOf_0 : decode (mC m_W_tokenOf) 0 = .ok (.aload_n 2, 1) := by decide +kernel
theorem d_W_tokenOf_1 : decode (mC m_W_tokenOf) 1 = .ok (.iconst 0, 1) := by decide +kernel
theorem d_W_tokenOf_2 : decode (mC m_W_tokenOf) 2 = .ok (.aload_n 0, 1) := by decide +kernel
theorem d_W_tokenOf_3 : decode (mC m_W_tokenOf) 3 = .ok (.iload_n 1, 1) := by decide +kernel
theorem d_W_tokenOf_4 : decode (mC m_W_tokenOf) 4 = .ok (.invokevirtual 109, 3) := by decide +kernel
theorem d_W_tokenOf_7 : decode (mC m_W_tokenOf) 7 = .ok (.i2l, 1) := by decide +kernel
theorem d_W_tokenOf_8 : decode (mC m_W_tokenOf) 8 = .ok (.lastore, 1) := by decide +kernel
theorem d_W_tokenOf_9 : decode (mC m_W_tokenOf) 9 = .ok (.goto (6), 3) := by decide +kernel
theorem d_W_tokenOf_12 : decode (mC m_W_tokenOf) 12 = .ok (.astore_n 3, 1) := by decide +kernel
theorem d_W_tokenOf_13 : decode (mC m_W_tokenOf) 13 = .ok (.iconst 1, 1) := by decide +kernel
theorem d_W_tokenOf_14 : decode (mC m_W_tokenOf) 14 = .ok (.ireturn, 1) := by decide +kernel
theorem d_W_tokenOf_15 : decode (mC m_W_tokenOf) 15 = .ok (.iconst 0, 1) := by decide +kernel
theorem d_W_tokenOf_16 : decode (mC m_W_tokenOf) 16 = .ok (.ireturn, 1) := by decide +kernel
theorem d_M_tokenOf_0 : decode (mC m_M_tokenOf) 0 = .ok (.aload_n 0, 1) := by decide +kernel
theorem d_M_tokenOf_1 : decode (mC m_M_tokenOf) 1 = .ok (.aload_n 0, 1) := by decide +kernel
theorem d_M_tokenOf_2 : decode (mC m_M_tokenOf) 2 = .ok (.iload_n 1, 1) := by decide +kernel
theorem d_M_tokenOf_3 : decode (mC m_M_tokenOf) 3 = .ok (.invokevirtual 371, 3) := by decide +kernel
theorem d_M_tokenOf_6 : decode (mC m_M_tokenOf) 6 = .ok (.invokevirtual 251, 3) := by decide +kernel
theorem d_M_tokenOf_9 : decode (mC m_M_tokenOf) 9 = .ok (.ifCond .eq (12), 3) := by decide +kernel
theorem d_M_tokenOf_12 : decode (mC m_M_tokenOf) 12 = .ok (.aload_n 0, 1) := by decide +kernel
theorem d_M_tokenOf_13 : decode (mC m_M_tokenOf) 13 = .ok (.getfield 143, 3) := by decide +kernel
theorem d_M_tokenOf_16 : decode (mC m_M_tokenOf) 16 = .ok (.iload_n 1, 1) := by decide +kernel
theorem d_M_tokenOf_17 : decode (mC m_M_tokenOf) 17 = .ok (.iaload, 1) := by decide +kernel
theorem d_M_tokenOf_18 : decode (mC m_M_tokenOf) 18 = .ok (.goto (4), 3) := by decide +kernel
theorem d_M_tokenOf_21 : decode (mC m_M_tokenOf) 21 = .ok (.iconst 0, 1) := by decide +kernel
theorem d_M_tokenOf_22 : decode (mC m_M_tokenOf) 22 = .ok (.ireturn, 1) := by decide +kernel
theorem d_K_findToken_0 : decode (mC m_K_findToken) 0 = .ok (.iload_n 1, 1) := by decide +kernel
theorem d_K_findToken_1 : decode (mC m_K_findToken) 1 = .ok (.aload_n 0, 1) := by decide +kernel
theorem d_K_findToken_2 : decode (mC m_K_findToken) 2 = .ok (.getfield 64, 3) := by decide +kernel
theorem d_K_findToken_5 : decode (mC m_K_findToken) 5 = .ok (.invokevirtual 134, 3) := by decide +kernel
theorem d_K_findToken_8 : decode (mC m_K_findToken) 8 = .ok (.invokestatic 148, 3) := by decide +kernel
theorem d_K_findToken_11 : decode (mC m_K_findToken) 11 = .ok (.aload_n 0, 1) := by decide +kernel
theorem d_K_findToken_12 : decode (mC m_K_findToken) 12 = .ok (.getfield 64, 3) := by decide +kernel
theorem d_K_findToken_15 : decode (mC m_K_findToken) 15 = .ok (.iload_n 1, 1) := by decide +kernel
theorem d_K_findToken_16 : decode (mC m_K_findToken) 16 = .ok (.invokevirtual 152, 3) := by decide +kernel
theorem d_K_findToken_19 : decode (mC m_K_findToken) 19 = .ok (.checkcast 314, 3) := by decide +kernel
theorem d_K_findToken_22 : decode (mC m_K_findToken) 22 = .ok (.areturn, 1) := by decide +kernel
theorem d_K_exchange_0 : decode (mC m_K_exchange) 0 = .ok (.aload_n 0, 1) := by decide +kernel
theorem d_K_exchange_1 : decode (mC m_K_exchange) 1 = .ok (.iload_n 1, 1) := by decide +kernel
theorem d_K_exchange_2 : decode (mC m_K_exchange) 2 = .ok (.invokevirtual 309, 3) := by decide +kernel
theorem d_K_exchange_5 : decode (mC m_K_exchange) 5 = .ok (.astore 4, 2) := by decide +kernel
theorem d_K_exchange_7 : decode (mC m_K_exchange) 7 = .ok (.aload_n 0, 1) := by decide +kernel
theorem d_K_exchange_8 : decode (mC m_K_exchange) 8 = .ok (.iload_n 2, 1) := by decide +kernel
theorem d_K_exchange_9 : decode (mC m_K_exchange) 9 = .ok (.invokevirtual 270, 3) := by decide +kernel
theorem d_K_exchange_12 : decode (mC m_K_exchange) 12 = .ok (.astore 5, 2) := by decide +kernel
theorem d_K_exchange_14 : decode (mC m_K_exchange) 14 = .ok (.iload_n 3, 1) := by decide +kernel
theorem d_K_exchange_15 : decode (mC m_K_exchange) 15 = .ok (.iconst 1, 1) := by decide +kernel
theorem d_K_exchange_16 : decode (mC m_K_exchange) 16 = .ok (.bipush (15), 2) := by decide +kernel
theorem d_K_exchange_18 : decode (mC m_K_exchange) 18 = .ok (.invokestatic 84, 3) := by decide +kernel
theorem d_K_exchange_21 : decode (mC m_K_exchange) 21 = .ok (.ifCond .eq (19), 3) := by decide +kernel
theorem d_K_exchange_24 : decode (mC m_K_exchange) 24 = .ok (.iload_n 3, 1) := by decide +kernel
theorem d_K_exchange_25 : decode (mC m_K_exchange) 25 = .ok (.aload 4, 2) := by decide +kernel
theorem d_K_exchange_27 : decode (mC m_K_exchange) 27 = .ok (.getfield 313, 3) := by decide +kernel
theorem d_K_exchange_30 : decode (mC m_K_exchange) 30 = .ok (.iconst (-1), 1) := by decide +kernel
theorem d_K_exchange_31 : decode (mC m_K_exchange) 31 = .ok (.ixor, 1) := by decide +kernel
theorem d_K_exchange_32 : decode (mC m_K_exchange) 32 = .ok (.iand, 1) := by decide +kernel
theorem d_K_exchange_33 : decode (mC m_K_exchange) 33 = .ok (.ifCond .ne (7), 3) := by decide +kernel
theorem d_K_exchange_36 : decode (mC m_K_exchange) 36 = .ok (.iconst 1, 1) := by decide +kernel
theorem d_K_exchange_37 : decode (mC m_K_exchange) 37 = .ok (.goto (4), 3) := by decide +kernel
theorem d_K_exchange_40 : decode (mC m_K_exchange) 40 = .ok (.iconst 0, 1) := by decide +kernel
theorem d_K_exchange_41 : decode (mC m_K_exchange) 41 = .ok (.invokestatic 88, 3) := by decide +kernel
theorem d_K_exchange_44 : decode (mC m_K_exchange) 44 = .ok (.aload_n 0, 1) := by decide +kernel
theorem d_K_exchange_45 : decode (mC m_K_exchange) 45 = .ok (.getfield 92, 3) := by decide +kernel
theorem d_K_exchange_48 : decode (mC m_K_exchange) 48 = .ok (.aload 4, 2) := by decide +kernel
theorem d_K_exchange_50 : decode (mC m_K_exchange) 50 = .ok (.getfield 318, 3) := by decide +kernel
theorem d_K_exchange_53 : decode (mC m_K_exchange) 53 = .ok (.if_icmp .gt (27), 3) := by decide +kernel
theorem d_K_exchange_56 : decode (mC m_K_exchange) 56 = .ok (.aload 4, 2) := by decide +kernel
theorem d_K_exchange_58 : decode (mC m_K_exchange) 58 = .ok (.getfield 321, 3) := by decide +kernel
theorem d_K_exchange_61 : decode (mC m_K_exchange) 61 = .ok (.getfield 258, 3) := by decide +kernel
theorem d_K_exchange_64 : decode (mC m_K_exchange) 64 = .ok (.ifCond .eq (16), 3) := by decide +kernel
theorem d_K_exchange_67 : decode (mC m_K_exchange) 67 = .ok (.aload 4, 2) := by decide +kernel
theorem d_K_exchange_69 : decode (mC m_K_exchange) 69 = .ok (.getfield 324, 3) := by decide +kernel
theorem d_K_exchange_72 : decode (mC m_K_exchange) 72 = .ok (.iconst 3, 1) := by decide +kernel
theorem d_K_exchange_73 : decode (mC m_K_exchange) 73 = .ok (.if_icmp .ge (7), 3) := by decide +kernel
theorem d_K_exchange_76 : decode (mC m_K_exchange) 76 = .ok (.iconst 1, 1) := by decide +kernel
theorem d_K_exchange_77 : decode (mC m_K_exchange) 77 = .ok (.goto (4), 3) := by decide +kernel
theorem d_K_exchange_80 : decode (mC m_K_exchange) 80 = .ok (.iconst 0, 1) := by decide +kernel
theorem d_K_exchange_81 : decode (mC m_K_exchange) 81 = .ok (.invokestatic 96, 3) := by decide +kernel
theorem d_K_exchange_84 : decode (mC m_K_exchange) 84 = .ok (.aload_n 0, 1) := by decide +kernel
theorem d_K_exchange_85 : decode (mC m_K_exchange) 85 = .ok (.getfield 64, 3) := by decide +kernel
theorem d_K_exchange_88 : decode (mC m_K_exchange) 88 = .ok (.invokevirtual 134, 3) := by decide +kernel
theorem d_K_exchange_91 : decode (mC m_K_exchange) 91 = .ok (.sipush (200), 3) := by decide +kernel
theorem d_K_exchange_94 : decode (mC m_K_exchange) 94 = .ok (.if_icmp .ge (7), 3) := by decide +kernel
theorem d_K_exchange_97 : decode (mC m_K_exchange) 97 = .ok (.iconst 1, 1) := by decide +kernel
theorem d_K_exchange_98 : decode (mC m_K_exchange) 98 = .ok (.goto (4), 3) := by decide +kernel
theorem d_K_exchange_101 : decode (mC m_K_exchange) 101 = .ok (.iconst 0, 1) := by decide +kernel
theorem d_K_exchange_102 : decode (mC m_K_exchange) 102 = .ok (.invokestatic 96, 3) := by decide +kernel
theorem d_K_exchange_105 : decode (mC m_K_exchange) 105 = .ok (.aload 4, 2) := by decide +kernel
theorem d_K_exchange_107 : decode (mC m_K_exchange) 107 = .ok (.getfield 321, 3) := by decide +kernel
theorem d_K_exchange_110 : decode (mC m_K_exchange) 110 = .ok (.getfield 261, 3) := by decide +kernel
theorem d_K_exchange_113 : decode (mC m_K_exchange) 113 = .ok (.aload_n 0, 1) := by decide +kernel
theorem d_K_exchange_114 : decode (mC m_K_exchange) 114 = .ok (.getfield 92, 3) := by decide +kernel
theorem d_K_exchange_117 : decode (mC m_K_exchange) 117 = .ok (.invokevirtual 215, 3) := by decide +kernel
theorem d_K_exchange_120 : decode (mC m_K_exchange) 120 = .ok (.aload 5, 2) := by decide +kernel
theorem d_K_exchange_122 : decode (mC m_K_exchange) 122 = .ok (.getfield 274, 3) := by decide +kernel
theorem d_K_exchange_125 : decode (mC m_K_exchange) 125 = .ok (.if_icmp .ge (6), 3) := by decide +kernel
theorem d_K_exchange_128 : decode (mC m_K_exchange) 128 = .ok (.bipush (-2), 2) := by decide +kernel
theorem d_K_exchange_130 : decode (mC m_K_exchange) 130 = .ok (.ireturn, 1) := by decide +kernel
theorem d_K_exchange_131 : decode (mC m_K_exchange) 131 = .ok (.aload_n 0, 1) := by decide +kernel
theorem d_K_exchange_132 : decode (mC m_K_exchange) 132 = .ok (.new 314, 3) := by decide +kernel
theorem d_K_exchange_135 : decode (mC m_K_exchange) 135 = .ok (.dup, 1) := by decide +kernel
theorem d_K_exchange_136 : decode (mC m_K_exchange) 136 = .ok (.aload 4, 2) := by decide +kernel
theorem d_K_exchange_138 : decode (mC m_K_exchange) 138 = .ok (.getfield 321, 3) := by decide +kernel
theorem d_K_exchange_141 : decode (mC m_K_exchange) 141 = .ok (.aload 4, 2) := by decide +kernel
theorem d_K_exchange_143 : decode (mC m_K_exchange) 143 = .ok (.getfield 327, 3) := by decide +kernel
theorem d_K_exchange_146 : decode (mC m_K_exchange) 146 = .ok (.iload_n 2, 1) := by decide +kernel
theorem d_K_exchange_147 : decode (mC m_K_exchange) 147 = .ok (.iload_n 3, 1) := by decide +kernel
theorem d_K_exchange_148 : decode (mC m_K_exchange) 148 = .ok (.aload 4, 2) := by decide +kernel
theorem d_K_exchange_150 : decode (mC m_K_exchange) 150 = .ok (.getfield 324, 3) := by decide +kernel
theorem d_K_exchange_153 : decode (mC m_K_exchange) 153 = .ok (.iconst 1, 1) := by decide +kernel
theorem d_K_exchange_154 : decode (mC m_K_exchange) 154 = .ok (.iadd, 1) := by decide +kernel
theorem d_K_exchange_155 : decode (mC m_K_exchange) 155 = .ok (.aload_n 0, 1) := by decide +kernel
theorem d_K_exchange_156 : decode (mC m_K_exchange) 156 = .ok (.getfield 70, 3) := by decide +kernel
theorem d_K_exchange_159 : decode (mC m_K_exchange) 159 = .ok (.getfield 330, 3) := by decide +kernel
theorem d_K_exchange_162 : decode (mC m_K_exchange) 162 = .ok (.aload 4, 2) := by decide +kernel
theorem d_K_exchange_164 : decode (mC m_K_exchange) 164 = .ok (.getfield 318, 3) := by decide +kernel
theorem d_K_exchange_167 : decode (mC m_K_exchange) 167 = .ok (.invokespecial 333, 3) := by decide +kernel
theorem d_K_exchange_170 : decode (mC m_K_exchange) 170 = .ok (.invokevirtual 336, 3) := by decide +kernel
theorem d_K_exchange_173 : decode (mC m_K_exchange) 173 = .ok (.aload_n 0, 1) := by decide +kernel
theorem d_K_exchange_174 : decode (mC m_K_exchange) 174 = .ok (.getfield 64, 3) := by decide +kernel
theorem d_K_exchange_177 : decode (mC m_K_exchange) 177 = .ok (.invokevirtual 134, 3) := by decide +kernel
theorem d_K_exchange_180 : decode (mC m_K_exchange) 180 = .ok (.iconst 1, 1) := by decide +kernel
theorem d_K_exchange_181 : decode (mC m_K_exchange) 181 = .ok (.isub, 1) := by decide +kernel
theorem d_K_exchange_182 : decode (mC m_K_exchange) 182 = .ok (.ireturn, 1) := by decide +kernel
theorem d_W_exchange_0 : decode (mC m_W_exchange) 0 = .ok (.aload 4, 2) := by decide +kernel
theorem d_W_exchange_2 : decode (mC m_W_exchange) 2 = .ok (.iconst 0, 1) := by decide +kernel
theorem d_W_exchange_3 : decode (mC m_W_exchange) 3 = .ok (.aload_n 0, 1) := by decide +kernel
theorem d_W_exchange_4 : decode (mC m_W_exchange) 4 = .ok (.iload_n 1, 1) := by decide +kernel
theorem d_W_exchange_5 : decode (mC m_W_exchange) 5 = .ok (.iload_n 2, 1) := by decide +kernel
theorem d_W_exchange_6 : decode (mC m_W_exchange) 6 = .ok (.iload_n 3, 1) := by decide +kernel
theorem d_W_exchange_7 : decode (mC m_W_exchange) 7 = .ok (.invokevirtual 112, 3) := by decide +kernel
theorem d_W_exchange_10 : decode (mC m_W_exchange) 10 = .ok (.i2l, 1) := by decide +kernel
theorem d_W_exchange_11 : decode (mC m_W_exchange) 11 = .ok (.lastore, 1) := by decide +kernel
theorem d_W_exchange_12 : decode (mC m_W_exchange) 12 = .ok (.goto (15), 3) := by decide +kernel
theorem d_W_exchange_15 : decode (mC m_W_exchange) 15 = .ok (.astore 5, 2) := by decide +kernel
theorem d_W_exchange_17 : decode (mC m_W_exchange) 17 = .ok (.iconst 1, 1) := by decide +kernel
theorem d_W_exchange_18 : decode (mC m_W_exchange) 18 = .ok (.ireturn, 1) := by decide +kernel
theorem d_W_exchange_19 : decode (mC m_W_exchange) 19 = .ok (.astore 5, 2) := by decide +kernel
theorem d_W_exchange_21 : decode (mC m_W_exchange) 21 = .ok (.iconst 2, 1) := by decide +kernel
theorem d_W_exchange_22 : decode (mC m_W_exchange) 22 = .ok (.ireturn, 1) := by decide +kernel
theorem d_W_exchange_23 : decode (mC m_W_exchange) 23 = .ok (.astore 5, 2) := by decide +kernel
theorem d_W_exchange_25 : decode (mC m_W_exchange) 25 = .ok (.iconst 3, 1) := by decide +kernel
theorem d_W_exchange_26 : decode (mC m_W_exchange) 26 = .ok (.ireturn, 1) := by decide +kernel
theorem d_W_exchange_27 : decode (mC m_W_exchange) 27 = .ok (.iconst 0, 1) := by decide +kernel
theorem d_W_exchange_28 : decode (mC m_W_exchange) 28 = .ok (.ireturn, 1) := by decide +kernel
theorem d_M_isToken_0 : decode (mC m_M_isToken) 0 = .ok (.iload_n 1, 1) := by decide +kernel
theorem d_M_isToken_1 : decode (mC m_M_isToken) 1 = .ok (.iconst 0, 1) := by decide +kernel
theorem d_M_isToken_2 : decode (mC m_M_isToken) 2 = .ok (.aload_n 0, 1) := by decide +kernel
theorem d_M_isToken_3 : decode (mC m_M_isToken) 3 = .ok (.getfield 241, 3) := by decide +kernel
theorem d_M_isToken_6 : decode (mC m_M_isToken) 6 = .ok (.iconst 1, 1) := by decide +kernel
theorem d_M_isToken_7 : decode (mC m_M_isToken) 7 = .ok (.isub, 1) := by decide +kernel
theorem d_M_isToken_8 : decode (mC m_M_isToken) 8 = .ok (.invokestatic 228, 3) := by decide +kernel
theorem d_M_isToken_11 : decode (mC m_M_isToken) 11 = .ok (.ireturn, 1) := by decide +kernel
theorem d_M_exchange_0 : decode (mC m_M_exchange) 0 = .ok (.aload_n 0, 1) := by decide +kernel
theorem d_M_exchange_1 : decode (mC m_M_exchange) 1 = .ok (.iload_n 1, 1) := by decide +kernel
theorem d_M_exchange_2 : decode (mC m_M_exchange) 2 = .ok (.invokevirtual 374, 3) := by decide +kernel
theorem d_M_exchange_5 : decode (mC m_M_exchange) 5 = .ok (.ifCond .eq (14), 3) := by decide +kernel
theorem d_M_exchange_8 : decode (mC m_M_exchange) 8 = .ok (.iload_n 2, 1) := by decide +kernel
theorem d_M_exchange_9 : decode (mC m_M_exchange) 9 = .ok (.invokestatic 358, 3) := by decide +kernel
theorem d_M_exchange_12 : decode (mC m_M_exchange) 12 = .ok (.ifCond .eq (7), 3) := by decide +kernel
theorem d_M_exchange_15 : decode (mC m_M_exchange) 15 = .ok (.iconst 1, 1) := by decide +kernel
theorem d_M_exchange_16 : decode (mC m_M_exchange) 16 = .ok (.goto (4), 3) := by decide +kernel
theorem d_M_exchange_19 : decode (mC m_M_exchange) 19 = .ok (.iconst 0, 1) := by decide +kernel
theorem d_M_exchange_20 : decode (mC m_M_exchange) 20 = .ok (.istore 4, 2) := by decide +kernel
theorem d_M_exchange_22 : decode (mC m_M_exchange) 22 = .ok (.iload 4, 2) := by decide +kernel
theorem d_M_exchange_24 : decode (mC m_M_exchange) 24 = .ok (.ifCond .eq (30), 3) := by decide +kernel
theorem d_M_exchange_27 : decode (mC m_M_exchange) 27 = .ok (.iload_n 3, 1) := by decide +kernel
theorem d_M_exchange_28 : decode (mC m_M_exchange) 28 = .ok (.iconst 1, 1) := by decide +kernel
theorem d_M_exchange_29 : decode (mC m_M_exchange) 29 = .ok (.bipush (15), 2) := by decide +kernel
theorem d_M_exchange_31 : decode (mC m_M_exchange) 31 = .ok (.invokestatic 228, 3) := by decide +kernel
theorem d_M_exchange_34 : decode (mC m_M_exchange) 34 = .ok (.ifCond .eq (20), 3) := by decide +kernel
theorem d_M_exchange_37 : decode (mC m_M_exchange) 37 = .ok (.iload_n 3, 1) := by decide +kernel
theorem d_M_exchange_38 : decode (mC m_M_exchange) 38 = .ok (.aload_n 0, 1) := by decide +kernel
theorem d_M_exchange_39 : decode (mC m_M_exchange) 39 = .ok (.getfield 155, 3) := by decide +kernel
theorem d_M_exchange_42 : decode (mC m_M_exchange) 42 = .ok (.iload_n 1, 1) := by decide +kernel
theorem d_M_exchange_43 : decode (mC m_M_exchange) 43 = .ok (.iaload, 1) := by decide +kernel
theorem d_M_exchange_44 : decode (mC m_M_exchange) 44 = .ok (.iconst (-1), 1) := by decide +kernel
theorem d_M_exchange_45 : decode (mC m_M_exchange) 45 = .ok (.ixor, 1) := by decide +kernel
theorem d_M_exchange_46 : decode (mC m_M_exchange) 46 = .ok (.iand, 1) := by decide +kernel
theorem d_M_exchange_47 : decode (mC m_M_exchange) 47 = .ok (.ifCond .ne (7), 3) := by decide +kernel
theorem d_M_exchange_50 : decode (mC m_M_exchange) 50 = .ok (.iconst 1, 1) := by decide +kernel
theorem d_M_exchange_51 : decode (mC m_M_exchange) 51 = .ok (.goto (4), 3) := by decide +kernel
theorem d_M_exchange_54 : decode (mC m_M_exchange) 54 = .ok (.iconst 0, 1) := by decide +kernel
theorem d_M_exchange_55 : decode (mC m_M_exchange) 55 = .ok (.istore 5, 2) := by decide +kernel
theorem d_M_exchange_57 : decode (mC m_M_exchange) 57 = .ok (.iload 4, 2) := by decide +kernel
theorem d_M_exchange_59 : decode (mC m_M_exchange) 59 = .ok (.ifCond .eq (54), 3) := by decide +kernel
theorem d_M_exchange_62 : decode (mC m_M_exchange) 62 = .ok (.aload_n 0, 1) := by decide +kernel
theorem d_M_exchange_63 : decode (mC m_M_exchange) 63 = .ok (.getfield 247, 3) := by decide +kernel
theorem d_M_exchange_66 : decode (mC m_M_exchange) 66 = .ok (.aload_n 0, 1) := by decide +kernel
theorem d_M_exchange_67 : decode (mC m_M_exchange) 67 = .ok (.getfield 167, 3) := by decide +kernel
theorem d_M_exchange_70 : decode (mC m_M_exchange) 70 = .ok (.iload_n 1, 1) := by decide +kernel
theorem d_M_exchange_71 : decode (mC m_M_exchange) 71 = .ok (.iaload, 1) := by decide +kernel
theorem d_M_exchange_72 : decode (mC m_M_exchange) 72 = .ok (.if_icmp .gt (41), 3) := by decide +kernel
theorem d_M_exchange_75 : decode (mC m_M_exchange) 75 = .ok (.aload_n 0, 1) := by decide +kernel
theorem d_M_exchange_76 : decode (mC m_M_exchange) 76 = .ok (.getfield 146, 3) := by decide +kernel
theorem d_M_exchange_79 : decode (mC m_M_exchange) 79 = .ok (.aload_n 0, 1) := by decide +kernel
theorem d_M_exchange_80 : decode (mC m_M_exchange) 80 = .ok (.getfield 161, 3) := by decide +kernel
theorem d_M_exchange_83 : decode (mC m_M_exchange) 83 = .ok (.iload_n 1, 1) := by decide +kernel
theorem d_M_exchange_84 : decode (mC m_M_exchange) 84 = .ok (.iaload, 1) := by decide +kernel
theorem d_M_exchange_85 : decode (mC m_M_exchange) 85 = .ok (.baload, 1) := by decide +kernel
theorem d_M_exchange_86 : decode (mC m_M_exchange) 86 = .ok (.ifCond .eq (27), 3) := by decide +kernel
theorem d_M_exchange_89 : decode (mC m_M_exchange) 89 = .ok (.aload_n 0, 1) := by decide +kernel
theorem d_M_exchange_90 : decode (mC m_M_exchange) 90 = .ok (.getfield 158, 3) := by decide +kernel
theorem d_M_exchange_93 : decode (mC m_M_exchange) 93 = .ok (.iload_n 1, 1) := by decide +kernel
theorem d_M_exchange_94 : decode (mC m_M_exchange) 94 = .ok (.iaload, 1) := by decide +kernel
theorem d_M_exchange_95 : decode (mC m_M_exchange) 95 = .ok (.iconst 3, 1) := by decide +kernel
theorem d_M_exchange_96 : decode (mC m_M_exchange) 96 = .ok (.if_icmp .ge (17), 3) := by decide +kernel
theorem d_M_exchange_99 : decode (mC m_M_exchange) 99 = .ok (.aload_n 0, 1) := by decide +kernel
theorem d_M_exchange_100 : decode (mC m_M_exchange) 100 = .ok (.getfield 241, 3) := by decide +kernel
theorem d_M_exchange_103 : decode (mC m_M_exchange) 103 = .ok (.sipush (200), 3) := by decide +kernel
theorem d_M_exchange_106 : decode (mC m_M_exchange) 106 = .ok (.if_icmp .ge (7), 3) := by decide +kernel
theorem d_M_exchange_109 : decode (mC m_M_exchange) 109 = .ok (.iconst 1, 1) := by decide +kernel
theorem d_M_exchange_110 : decode (mC m_M_exchange) 110 = .ok (.goto (4), 3) := by decide +kernel
theorem d_M_exchange_113 : decode (mC m_M_exchange) 113 = .ok (.iconst 0, 1) := by decide +kernel
theorem d_M_exchange_114 : decode (mC m_M_exchange) 114 = .ok (.istore 6, 2) := by decide +kernel
theorem d_M_exchange_116 : decode (mC m_M_exchange) 116 = .ok (.aload_n 0, 1) := by decide +kernel
theorem d_M_exchange_117 : decode (mC m_M_exchange) 117 = .ok (.iload 4, 2) := by decide +kernel
theorem d_M_exchange_119 : decode (mC m_M_exchange) 119 = .ok (.iload 5, 2) := by decide +kernel
theorem d_M_exchange_121 : decode (mC m_M_exchange) 121 = .ok (.iload 6, 2) := by decide +kernel
theorem d_M_exchange_123 : decode (mC m_M_exchange) 123 = .ok (.invokevirtual 344, 3) := by decide +kernel
theorem d_M_exchange_126 : decode (mC m_M_exchange) 126 = .ok (.ifCond .ne (5), 3) := by decide +kernel
theorem d_M_exchange_129 : decode (mC m_M_exchange) 129 = .ok (.iconst 0, 1) := by decide +kernel
theorem d_M_exchange_130 : decode (mC m_M_exchange) 130 = .ok (.ireturn, 1) := by decide +kernel
theorem d_M_exchange_131 : decode (mC m_M_exchange) 131 = .ok (.aload_n 0, 1) := by decide +kernel
theorem d_M_exchange_132 : decode (mC m_M_exchange) 132 = .ok (.getfield 161, 3) := by decide +kernel
theorem d_M_exchange_135 : decode (mC m_M_exchange) 135 = .ok (.iload_n 1, 1) := by decide +kernel
theorem d_M_exchange_136 : decode (mC m_M_exchange) 136 = .ok (.iaload, 1) := by decide +kernel
theorem d_M_exchange_137 : decode (mC m_M_exchange) 137 = .ok (.istore 7, 2) := by decide +kernel
theorem d_M_exchange_139 : decode (mC m_M_exchange) 139 = .ok (.aload_n 0, 1) := by decide +kernel
theorem d_M_exchange_140 : decode (mC m_M_exchange) 140 = .ok (.aload_n 0, 1) := by decide +kernel
theorem d_M_exchange_141 : decode (mC m_M_exchange) 141 = .ok (.getfield 116, 3) := by decide +kernel
theorem d_M_exchange_144 : decode (mC m_M_exchange) 144 = .ok (.aload_n 0, 1) := by decide +kernel
theorem d_M_exchange_145 : decode (mC m_M_exchange) 145 = .ok (.getfield 134, 3) := by decide +kernel
theorem d_M_exchange_148 : decode (mC m_M_exchange) 148 = .ok (.iload 7, 2) := by decide +kernel
theorem d_M_exchange_150 : decode (mC m_M_exchange) 150 = .ok (.iaload, 1) := by decide +kernel
theorem d_M_exchange_151 : decode (mC m_M_exchange) 151 = .ok (.iaload, 1) := by decide +kernel
theorem d_M_exchange_152 : decode (mC m_M_exchange) 152 = .ok (.invokevirtual 355, 3) := by decide +kernel
theorem d_M_exchange_155 : decode (mC m_M_exchange) 155 = .ok (.aload_n 0, 1) := by decide +kernel
theorem d_M_exchange_156 : decode (mC m_M_exchange) 156 = .ok (.getfield 113, 3) := by decide +kernel
theorem d_M_exchange_159 : decode (mC m_M_exchange) 159 = .ok (.iload_n 2, 1) := by decide +kernel
theorem d_M_exchange_160 : decode (mC m_M_exchange) 160 = .ok (.iaload, 1) := by decide +kernel
theorem d_M_exchange_161 : decode (mC m_M_exchange) 161 = .ok (.if_icmp .ge (6), 3) := by decide +kernel
theorem d_M_exchange_164 : decode (mC m_M_exchange) 164 = .ok (.bipush (-2), 2) := by decide +kernel
theorem d_M_exchange_166 : decode (mC m_M_exchange) 166 = .ok (.ireturn, 1) := by decide +kernel
theorem d_M_exchange_167 : decode (mC m_M_exchange) 167 = .ok (.aload_n 0, 1) := by decide +kernel
theorem d_M_exchange_168 : decode (mC m_M_exchange) 168 = .ok (.iload 7, 2) := by decide +kernel
theorem d_M_exchange_170 : decode (mC m_M_exchange) 170 = .ok (.aload_n 0, 1) := by decide +kernel
theorem d_M_exchange_171 : decode (mC m_M_exchange) 171 = .ok (.getfield 152, 3) := by decide +kernel
theorem d_M_exchange_174 : decode (mC m_M_exchange) 174 = .ok (.iload_n 1, 1) := by decide +kernel
theorem d_M_exchange_175 : decode (mC m_M_exchange) 175 = .ok (.iaload, 1) := by decide +kernel
theorem d_M_exchange_176 : decode (mC m_M_exchange) 176 = .ok (.iload_n 2, 1) := by decide +kernel
theorem d_M_exchange_177 : decode (mC m_M_exchange) 177 = .ok (.iload_n 3, 1) := by decide +kernel
theorem d_M_exchange_178 : decode (mC m_M_exchange) 178 = .ok (.aload_n 0, 1) := by decide +kernel
theorem d_M_exchange_179 : decode (mC m_M_exchange) 179 = .ok (.getfield 158, 3) := by decide +kernel
theorem d_M_exchange_182 : decode (mC m_M_exchange) 182 = .ok (.iload_n 1, 1) := by decide +kernel
theorem d_M_exchange_183 : decode (mC m_M_exchange) 183 = .ok (.iaload, 1) := by decide +kernel
theorem d_M_exchange_184 : decode (mC m_M_exchange) 184 = .ok (.iconst 1, 1) := by decide +kernel
theorem d_M_exchange_185 : decode (mC m_M_exchange) 185 = .ok (.iadd, 1) := by decide +kernel
theorem d_M_exchange_186 : decode (mC m_M_exchange) 186 = .ok (.aload_n 0, 1) := by decide +kernel
theorem d_M_exchange_187 : decode (mC m_M_exchange) 187 = .ok (.getfield 167, 3) := by decide +kernel
theorem d_M_exchange_190 : decode (mC m_M_exchange) 190 = .ok (.iload_n 1, 1) := by decide +kernel
theorem d_M_exchange_191 : decode (mC m_M_exchange) 191 = .ok (.iaload, 1) := by decide +kernel
theorem d_M_exchange_192 : decode (mC m_M_exchange) 192 = .ok (.invokevirtual 364, 3) := by decide +kernel
theorem d_M_exchange_195 : decode (mC m_M_exchange) 195 = .ok (.ireturn, 1) := by decide +kernel
theorem d_K_token_0 : decode (mC m_K_token) 0 = .ok (.aload_n 0, 1) := by decide +kernel
theorem d_K_token_1 : decode (mC m_K_token) 1 = .ok (.iload_n 1, 1) := by decide +kernel
theorem d_K_token_2 : decode (mC m_K_token) 2 = .ok (.invokevirtual 309, 3) := by decide +kernel
theorem d_K_token_5 : decode (mC m_K_token) 5 = .ok (.astore_n 2, 1) := by decide +kernel
theorem d_K_token_6 : decode (mC m_K_token) 6 = .ok (.sipush (1000), 3) := by decide +kernel
theorem d_K_token_9 : decode (mC m_K_token) 9 = .ok (.aload_n 2, 1) := by decide +kernel
theorem d_K_token_10 : decode (mC m_K_token) 10 = .ok (.getfield 318, 3) := by decide +kernel
theorem d_K_token_13 : decode (mC m_K_token) 13 = .ok (.imul, 1) := by decide +kernel
theorem d_K_token_14 : decode (mC m_K_token) 14 = .ok (.bipush (100), 2) := by decide +kernel
theorem d_K_token_16 : decode (mC m_K_token) 16 = .ok (.aload_n 2, 1) := by decide +kernel
theorem d_K_token_17 : decode (mC m_K_token) 17 = .ok (.getfield 340, 3) := by decide +kernel
theorem d_K_token_20 : decode (mC m_K_token) 20 = .ok (.imul, 1) := by decide +kernel
theorem d_K_token_21 : decode (mC m_K_token) 21 = .ok (.iadd, 1) := by decide +kernel
theorem d_K_token_22 : decode (mC m_K_token) 22 = .ok (.bipush (10), 2) := by decide +kernel
theorem d_K_token_24 : decode (mC m_K_token) 24 = .ok (.aload_n 2, 1) := by decide +kernel
theorem d_K_token_25 : decode (mC m_K_token) 25 = .ok (.getfield 327, 3) := by decide +kernel
theorem d_K_token_28 : decode (mC m_K_token) 28 = .ok (.imul, 1) := by decide +kernel
theorem d_K_token_29 : decode (mC m_K_token) 29 = .ok (.iadd, 1) := by decide +kernel
theorem d_K_token_30 : decode (mC m_K_token) 30 = .ok (.aload_n 2, 1) := by decide +kernel
theorem d_K_token_31 : decode (mC m_K_token) 31 = .ok (.getfield 324, 3) := by decide +kernel
theorem d_K_token_34 : decode (mC m_K_token) 34 = .ok (.iadd, 1) := by decide +kernel
theorem d_K_token_35 : decode (mC m_K_token) 35 = .ok (.ireturn, 1) := by decide +kernel
theorem d_W_token_0 : decode (mC m_W_token) 0 = .ok (.aload_n 2, 1) := by decide +kernel
theorem d_W_token_1 : decode (mC m_W_token) 1 = .ok (.iconst 0, 1) := by decide +kernel
theorem d_W_token_2 : decode (mC m_W_token) 2 = .ok (.aload_n 0, 1) := by decide +kernel
theorem d_W_token_3 : decode (mC m_W_token) 3 = .ok (.iload_n 1, 1) := by decide +kernel
theorem d_W_token_4 : decode (mC m_W_token) 4 = .ok (.invokevirtual 115, 3) := by decide +kernel
theorem d_W_token_7 : decode (mC m_W_token) 7 = .ok (.i2l, 1) := by decide +kernel
theorem d_W_token_8 : decode (mC m_W_token) 8 = .ok (.lastore, 1) := by decide +kernel
theorem d_W_token_9 : decode (mC m_W_token) 9 = .ok (.goto (6), 3) := by decide +kernel
theorem d_W_token_12 : decode (mC m_W_token) 12 = .ok (.astore_n 3, 1) := by decide +kernel
theorem d_W_token_13 : decode (mC m_W_token) 13 = .ok (.iconst 1, 1) := by decide +kernel
theorem d_W_token_14 : decode (mC m_W_token) 14 = .ok (.ireturn, 1) := by decide +kernel
theorem d_W_token_15 : decode (mC m_W_token) 15 = .ok (.iconst 0, 1) := by decide +kernel
theorem d_W_token_16 : decode (mC m_W_token) 16 = .ok (.ireturn, 1) := by decide +kernel
theorem d_M_token_0 : decode (mC m_M_token) 0 = .ok (.aload_n 0, 1) := by decide +kernel
theorem d_M_token_1 : decode (mC m_M_token) 1 = .ok (.aload_n 0, 1) := by decide +kernel
theorem d_M_token_2 : decode (mC m_M_token) 2 = .ok (.iload_n 1, 1) := by decide +kernel
theorem d_M_token_3 : decode (mC m_M_token) 3 = .ok (.invokevirtual 374, 3) := by decide +kernel
theorem d_M_token_6 : decode (mC m_M_token) 6 = .ok (.invokevirtual 251, 3) := by decide +kernel
theorem d_M_token_9 : decode (mC m_M_token) 9 = .ok (.ifCond .eq (43), 3) := by decide +kernel
theorem d_M_token_12 : decode (mC m_M_token) 12 = .ok (.sipush (1000), 3) := by decide +kernel
theorem d_M_token_15 : decode (mC m_M_token) 15 = .ok (.aload_n 0, 1) := by decide +kernel
theorem d_M_token_16 : decode (mC m_M_token) 16 = .ok (.getfield 167, 3) := by decide +kernel
theorem d_M_token_19 : decode (mC m_M_token) 19 = .ok (.iload_n 1, 1) := by decide +kernel
theorem d_M_token_20 : decode (mC m_M_token) 20 = .ok (.iaload, 1) := by decide +kernel
theorem d_M_token_21 : decode (mC m_M_token) 21 = .ok (.imul, 1) := by decide +kernel
theorem d_M_token_22 : decode (mC m_M_token) 22 = .ok (.bipush (100), 2) := by decide +kernel
theorem d_M_token_24 : decode (mC m_M_token) 24 = .ok (.aload_n 0, 1) := by decide +kernel
theorem d_M_token_25 : decode (mC m_M_token) 25 = .ok (.getfield 149, 3) := by decide +kernel
theorem d_M_token_28 : decode (mC m_M_token) 28 = .ok (.iload_n 1, 1) := by decide +kernel
theorem d_M_token_29 : decode (mC m_M_token) 29 = .ok (.iaload, 1) := by decide +kernel
theorem d_M_token_30 : decode (mC m_M_token) 30 = .ok (.imul, 1) := by decide +kernel
theorem d_M_token_31 : decode (mC m_M_token) 31 = .ok (.iadd, 1) := by decide +kernel
theorem d_M_token_32 : decode (mC m_M_token) 32 = .ok (.bipush (10), 2) := by decide +kernel
theorem d_M_token_34 : decode (mC m_M_token) 34 = .ok (.aload_n 0, 1) := by decide +kernel
theorem d_M_token_35 : decode (mC m_M_token) 35 = .ok (.getfield 152, 3) := by decide +kernel
theorem d_M_token_38 : decode (mC m_M_token) 38 = .ok (.iload_n 1, 1) := by decide +kernel
theorem d_M_token_39 : decode (mC m_M_token) 39 = .ok (.iaload, 1) := by decide +kernel
theorem d_M_token_40 : decode (mC m_M_token) 40 = .ok (.imul, 1) := by decide +kernel
theorem d_M_token_41 : decode (mC m_M_token) 41 = .ok (.iadd, 1) := by decide +kernel
theorem d_M_token_42 : decode (mC m_M_token) 42 = .ok (.aload_n 0, 1) := by decide +kernel
theorem d_M_token_43 : decode (mC m_M_token) 43 = .ok (.getfield 158, 3) := by decide +kernel
theorem d_M_token_46 : decode (mC m_M_token) 46 = .ok (.iload_n 1, 1) := by decide +kernel
theorem d_M_token_47 : decode (mC m_M_token) 47 = .ok (.iaload, 1) := by decide +kernel
theorem d_M_token_48 : decode (mC m_M_token) 48 = .ok (.iadd, 1) := by decide +kernel
theorem d_M_token_49 : decode (mC m_M_token) 49 = .ok (.goto (4), 3) := by decide +kernel
theorem d_M_token_52 : decode (mC m_M_token) 52 = .ok (.iconst 0, 1) := by decide +kernel
theorem d_M_token_53 : decode (mC m_M_token) 53 = .ok (.ireturn, 1) := by decide +kernel
theorem d_Keyring_publishNext_0 : decode (mC m_Keyring_publishNext) 0 = .ok (.aload_n 0, 1) := by decide +kernel
theorem d_Keyring_publishNext_1 : decode (mC m_Keyring_publishNext) 1 = .ok (.dup, 1) := by decide +kernel
theorem d_Keyring_publishNext_2 : decode (mC m_Keyring_publishNext) 2 = .ok (.getfield 18, 3) := by decide +kernel
theorem d_Keyring_publishNext_5 : decode (mC m_Keyring_publishNext) 5 = .ok (.iconst 1, 1) := by decide +kernel
theorem d_Keyring_publishNext_6 : decode (mC m_Keyring_publishNext) 6 = .ok (.aload_n 0, 1) := by decide +kernel
theorem d_Keyring_publishNext_7 : decode (mC m_Keyring_publishNext) 7 = .ok (.getfield 9, 3) := by decide +kernel
theorem d_Keyring_publishNext_10 : decode (mC m_Keyring_publishNext) 10 = .ok (.ishl, 1) := by decide +kernel
theorem d_Keyring_publishNext_11 : decode (mC m_Keyring_publishNext) 11 = .ok (.ior, 1) := by decide +kernel
theorem d_Keyring_publishNext_12 : decode (mC m_Keyring_publishNext) 12 = .ok (.putfield 18, 3) := by decide +kernel
theorem d_Keyring_publishNext_15 : decode (mC m_Keyring_publishNext) 15 = .ok (.aload_n 0, 1) := by decide +kernel
theorem d_Keyring_publishNext_16 : decode (mC m_Keyring_publishNext) 16 = .ok (.dup, 1) := by decide +kernel
theorem d_Keyring_publishNext_17 : decode (mC m_Keyring_publishNext) 17 = .ok (.getfield 9, 3) := by decide +kernel
theorem d_Keyring_publishNext_20 : decode (mC m_Keyring_publishNext) 20 = .ok (.iconst 1, 1) := by decide +kernel
theorem d_Keyring_publishNext_21 : decode (mC m_Keyring_publishNext) 21 = .ok (.iadd, 1) := by decide +kernel
theorem d_Keyring_publishNext_22 : decode (mC m_Keyring_publishNext) 22 = .ok (.putfield 9, 3) := by decide +kernel
theorem d_Keyring_publishNext_25 : decode (mC m_Keyring_publishNext) 25 = .ok (.aload_n 0, 1) := by decide +kernel
theorem d_Keyring_publishNext_26 : decode (mC m_Keyring_publishNext) 26 = .ok (.getfield 9, 3) := by decide +kernel
theorem d_Keyring_publishNext_29 : decode (mC m_Keyring_publishNext) 29 = .ok (.iconst 1, 1) := by decide +kernel
theorem d_Keyring_publishNext_30 : decode (mC m_Keyring_publishNext) 30 = .ok (.isub, 1) := by decide +kernel
theorem d_Keyring_publishNext_31 : decode (mC m_Keyring_publishNext) 31 = .ok (.ireturn, 1) := by decide +kernel
theorem d_Keyring_publishWaiting_0 : decode (mC m_Keyring_publishWaiting) 0 = .ok (.aload_n 0, 1) := by decide +kernel
theorem d_Keyring_publishWaiting_1 : decode (mC m_Keyring_publishWaiting) 1 = .ok (.aload_n 0, 1) := by decide +kernel
theorem d_Keyring_publishWaiting_2 : decode (mC m_Keyring_publishWaiting) 2 = .ok (.invokevirtual 25, 3) := by decide +kernel
theorem d_Keyring_publishWaiting_5 : decode (mC m_Keyring_publishWaiting) 5 = .ok (.putfield 15, 3) := by decide +kernel
theorem d_Keyring_publishWaiting_8 : decode (mC m_Keyring_publishWaiting) 8 = .ok (.aload_n 0, 1) := by decide +kernel
theorem d_Keyring_publishWaiting_9 : decode (mC m_Keyring_publishWaiting) 9 = .ok (.iload_n 1, 1) := by decide +kernel
theorem d_Keyring_publishWaiting_10 : decode (mC m_Keyring_publishWaiting) 10 = .ok (.iconst 5, 1) := by decide +kernel
theorem d_Keyring_publishWaiting_11 : decode (mC m_Keyring_publishWaiting) 11 = .ok (.iadd, 1) := by decide +kernel
theorem d_Keyring_publishWaiting_12 : decode (mC m_Keyring_publishWaiting) 12 = .ok (.putfield 29, 3) := by decide +kernel
theorem d_Keyring_publishWaiting_15 : decode (mC m_Keyring_publishWaiting) 15 = .ok (.aload_n 0, 1) := by decide +kernel
theorem d_Keyring_publishWaiting_16 : decode (mC m_Keyring_publishWaiting) 16 = .ok (.getfield 15, 3) := by decide +kernel
theorem d_Keyring_publishWaiting_19 : decode (mC m_Keyring_publishWaiting) 19 = .ok (.ireturn, 1) := by decide +kernel
theorem d_K_turn_0 : decode (mC m_K_turn) 0 = .ok (.aload_n 0, 1) := by decide +kernel
theorem d_K_turn_1 : decode (mC m_K_turn) 1 = .ok (.getfield 70, 3) := by decide +kernel
theorem d_K_turn_4 : decode (mC m_K_turn) 4 = .ok (.getfield 341, 3) := by decide +kernel
theorem d_K_turn_7 : decode (mC m_K_turn) 7 = .ok (.iconst (-1), 1) := by decide +kernel
theorem d_K_turn_8 : decode (mC m_K_turn) 8 = .ok (.if_icmp .ne (19), 3) := by decide +kernel
theorem d_K_turn_11 : decode (mC m_K_turn) 11 = .ok (.aload_n 0, 1) := by decide +kernel
theorem d_K_turn_12 : decode (mC m_K_turn) 12 = .ok (.getfield 70, 3) := by decide +kernel
theorem d_K_turn_15 : decode (mC m_K_turn) 15 = .ok (.getfield 344, 3) := by decide +kernel
theorem d_K_turn_18 : decode (mC m_K_turn) 18 = .ok (.bipush (20), 2) := by decide +kernel
theorem d_K_turn_20 : decode (mC m_K_turn) 20 = .ok (.if_icmp .ge (7), 3) := by decide +kernel
theorem d_K_turn_23 : decode (mC m_K_turn) 23 = .ok (.iconst 1, 1) := by decide +kernel
theorem d_K_turn_24 : decode (mC m_K_turn) 24 = .ok (.goto (4), 3) := by decide +kernel
theorem d_K_turn_27 : decode (mC m_K_turn) 27 = .ok (.iconst 0, 1) := by decide +kernel
theorem d_K_turn_28 : decode (mC m_K_turn) 28 = .ok (.invokestatic 96, 3) := by decide +kernel
theorem d_K_turn_31 : decode (mC m_K_turn) 31 = .ok (.aload_n 0, 1) := by decide +kernel
theorem d_K_turn_32 : decode (mC m_K_turn) 32 = .ok (.getfield 70, 3) := by decide +kernel
theorem d_K_turn_35 : decode (mC m_K_turn) 35 = .ok (.aload_n 0, 1) := by decide +kernel
theorem d_K_turn_36 : decode (mC m_K_turn) 36 = .ok (.getfield 92, 3) := by decide +kernel
theorem d_K_turn_39 : decode (mC m_K_turn) 39 = .ok (.invokevirtual 345, 3) := by decide +kernel
theorem d_K_turn_42 : decode (mC m_K_turn) 42 = .ok (.ireturn, 1) := by decide +kernel
theorem d_W_turn_0 : decode (mC m_W_turn) 0 = .ok (.aload_n 1, 1) := by decide +kernel
theorem d_W_turn_1 : decode (mC m_W_turn) 1 = .ok (.iconst 0, 1) := by decide +kernel
theorem d_W_turn_2 : decode (mC m_W_turn) 2 = .ok (.aload_n 0, 1) := by decide +kernel
theorem d_W_turn_3 : decode (mC m_W_turn) 3 = .ok (.invokevirtual 118, 3) := by decide +kernel
theorem d_W_turn_6 : decode (mC m_W_turn) 6 = .ok (.i2l, 1) := by decide +kernel
theorem d_W_turn_7 : decode (mC m_W_turn) 7 = .ok (.lastore, 1) := by decide +kernel
theorem d_W_turn_8 : decode (mC m_W_turn) 8 = .ok (.goto (6), 3) := by decide +kernel
theorem d_W_turn_11 : decode (mC m_W_turn) 11 = .ok (.astore_n 2, 1) := by decide +kernel
theorem d_W_turn_12 : decode (mC m_W_turn) 12 = .ok (.iconst 1, 1) := by decide +kernel
theorem d_W_turn_13 : decode (mC m_W_turn) 13 = .ok (.ireturn, 1) := by decide +kernel
theorem d_W_turn_14 : decode (mC m_W_turn) 14 = .ok (.iconst 0, 1) := by decide +kernel
theorem d_W_turn_15 : decode (mC m_W_turn) 15 = .ok (.ireturn, 1) := by decide +kernel
theorem d_M_turn_0 : decode (mC m_M_turn) 0 = .ok (.aload_n 0, 1) := by decide +kernel
theorem d_M_turn_1 : decode (mC m_M_turn) 1 = .ok (.aload_n 0, 1) := by decide +kernel
theorem d_M_turn_2 : decode (mC m_M_turn) 2 = .ok (.getfield 174, 3) := by decide +kernel
theorem d_M_turn_5 : decode (mC m_M_turn) 5 = .ok (.iconst (-1), 1) := by decide +kernel
theorem d_M_turn_6 : decode (mC m_M_turn) 6 = .ok (.if_icmp .ne (16), 3) := by decide +kernel
theorem d_M_turn_9 : decode (mC m_M_turn) 9 = .ok (.aload_n 0, 1) := by decide +kernel
theorem d_M_turn_10 : decode (mC m_M_turn) 10 = .ok (.getfield 170, 3) := by decide +kernel
theorem d_M_turn_13 : decode (mC m_M_turn) 13 = .ok (.bipush (20), 2) := by decide +kernel
theorem d_M_turn_15 : decode (mC m_M_turn) 15 = .ok (.if_icmp .ge (7), 3) := by decide +kernel
theorem d_M_turn_18 : decode (mC m_M_turn) 18 = .ok (.iconst 1, 1) := by decide +kernel
theorem d_M_turn_19 : decode (mC m_M_turn) 19 = .ok (.goto (4), 3) := by decide +kernel
theorem d_M_turn_22 : decode (mC m_M_turn) 22 = .ok (.iconst 0, 1) := by decide +kernel
theorem d_M_turn_23 : decode (mC m_M_turn) 23 = .ok (.invokevirtual 251, 3) := by decide +kernel
theorem d_M_turn_26 : decode (mC m_M_turn) 26 = .ok (.ifCond .ne (5), 3) := by decide +kernel
theorem d_M_turn_29 : decode (mC m_M_turn) 29 = .ok (.iconst 0, 1) := by decide +kernel
theorem d_M_turn_30 : decode (mC m_M_turn) 30 = .ok (.ireturn, 1) := by decide +kernel
theorem d_M_turn_31 : decode (mC m_M_turn) 31 = .ok (.aload_n 0, 1) := by decide +kernel
theorem d_M_turn_32 : decode (mC m_M_turn) 32 = .ok (.aload_n 0, 1) := by decide +kernel
theorem d_M_turn_33 : decode (mC m_M_turn) 33 = .ok (.getfield 170, 3) := by decide +kernel
theorem d_M_turn_36 : decode (mC m_M_turn) 36 = .ok (.putfield 174, 3) := by decide +kernel
theorem d_M_turn_39 : decode (mC m_M_turn) 39 = .ok (.aload_n 0, 1) := by decide +kernel
theorem d_M_turn_40 : decode (mC m_M_turn) 40 = .ok (.aload_n 0, 1) := by decide +kernel
theorem d_M_turn_41 : decode (mC m_M_turn) 41 = .ok (.getfield 247, 3) := by decide +kernel
theorem d_M_turn_44 : decode (mC m_M_turn) 44 = .ok (.iconst 5, 1) := by decide +kernel
theorem d_M_turn_45 : decode (mC m_M_turn) 45 = .ok (.iadd, 1) := by decide +kernel
theorem d_M_turn_46 : decode (mC m_M_turn) 46 = .ok (.putfield 278, 3) := by decide +kernel
theorem d_M_turn_49 : decode (mC m_M_turn) 49 = .ok (.aload_n 0, 1) := by decide +kernel
theorem d_M_turn_50 : decode (mC m_M_turn) 50 = .ok (.dup, 1) := by decide +kernel
theorem d_M_turn_51 : decode (mC m_M_turn) 51 = .ok (.getfield 170, 3) := by decide +kernel
theorem d_M_turn_54 : decode (mC m_M_turn) 54 = .ok (.iconst 1, 1) := by decide +kernel
theorem d_M_turn_55 : decode (mC m_M_turn) 55 = .ok (.iadd, 1) := by decide +kernel
theorem d_M_turn_56 : decode (mC m_M_turn) 56 = .ok (.putfield 170, 3) := by decide +kernel
theorem d_M_turn_59 : decode (mC m_M_turn) 59 = .ok (.aload_n 0, 1) := by decide +kernel
theorem d_M_turn_60 : decode (mC m_M_turn) 60 = .ok (.getfield 174, 3) := by decide +kernel
theorem d_M_turn_63 : decode (mC m_M_turn) 63 = .ok (.ireturn, 1) := by decide +kernel
theorem d_Keyring_replaceSigner_0 : decode (mC m_Keyring_replaceSigner) 0 = .ok (.aload_n 0, 1) := by decide +kernel
theorem d_Keyring_replaceSigner_1 : decode (mC m_Keyring_replaceSigner) 1 = .ok (.dup, 1) := by decide +kernel
theorem d_Keyring_replaceSigner_2 : decode (mC m_Keyring_replaceSigner) 2 = .ok (.getfield 18, 3) := by decide +kernel
theorem d_Keyring_replaceSigner_5 : decode (mC m_Keyring_replaceSigner) 5 = .ok (.iconst 1, 1) := by decide +kernel
theorem d_Keyring_replaceSigner_6 : decode (mC m_Keyring_replaceSigner) 6 = .ok (.aload_n 0, 1) := by decide +kernel
theorem d_Keyring_replaceSigner_7 : decode (mC m_Keyring_replaceSigner) 7 = .ok (.getfield 32, 3) := by decide +kernel
theorem d_Keyring_replaceSigner_10 : decode (mC m_Keyring_replaceSigner) 10 = .ok (.ishl, 1) := by decide +kernel
theorem d_Keyring_replaceSigner_11 : decode (mC m_Keyring_replaceSigner) 11 = .ok (.iconst (-1), 1) := by decide +kernel
theorem d_Keyring_replaceSigner_12 : decode (mC m_Keyring_replaceSigner) 12 = .ok (.ixor, 1) := by decide +kernel
theorem d_Keyring_replaceSigner_13 : decode (mC m_Keyring_replaceSigner) 13 = .ok (.iand, 1) := by decide +kernel
theorem d_Keyring_replaceSigner_14 : decode (mC m_Keyring_replaceSigner) 14 = .ok (.putfield 18, 3) := by decide +kernel
theorem d_Keyring_replaceSigner_17 : decode (mC m_Keyring_replaceSigner) 17 = .ok (.aload_n 0, 1) := by decide +kernel
theorem d_Keyring_replaceSigner_18 : decode (mC m_Keyring_replaceSigner) 18 = .ok (.aload_n 0, 1) := by decide +kernel
theorem d_Keyring_replaceSigner_19 : decode (mC m_Keyring_replaceSigner) 19 = .ok (.getfield 15, 3) := by decide +kernel
theorem d_Keyring_replaceSigner_22 : decode (mC m_Keyring_replaceSigner) 22 = .ok (.iconst (-1), 1) := by decide +kernel
theorem d_Keyring_replaceSigner_23 : decode (mC m_Keyring_replaceSigner) 23 = .ok (.if_icmp .eq (10), 3) := by decide +kernel
theorem d_Keyring_replaceSigner_26 : decode (mC m_Keyring_replaceSigner) 26 = .ok (.aload_n 0, 1) := by decide +kernel
theorem d_Keyring_replaceSigner_27 : decode (mC m_Keyring_replaceSigner) 27 = .ok (.getfield 15, 3) := by decide +kernel
theorem d_Keyring_replaceSigner_30 : decode (mC m_Keyring_replaceSigner) 30 = .ok (.goto (7), 3) := by decide +kernel
theorem d_Keyring_replaceSigner_33 : decode (mC m_Keyring_replaceSigner) 33 = .ok (.aload_n 0, 1) := by decide +kernel
theorem d_Keyring_replaceSigner_34 : decode (mC m_Keyring_replaceSigner) 34 = .ok (.invokevirtual 25, 3) := by decide +kernel
theorem d_Keyring_replaceSigner_37 : decode (mC m_Keyring_replaceSigner) 37 = .ok (.putfield 32, 3) := by decide +kernel
theorem d_Keyring_replaceSigner_40 : decode (mC m_Keyring_replaceSigner) 40 = .ok (.aload_n 0, 1) := by decide +kernel
theorem d_Keyring_replaceSigner_41 : decode (mC m_Keyring_replaceSigner) 41 = .ok (.iconst (-1), 1) := by decide +kernel
theorem d_Keyring_replaceSigner_42 : decode (mC m_Keyring_replaceSigner) 42 = .ok (.putfield 15, 3) := by decide +kernel
theorem d_Keyring_replaceSigner_45 : decode (mC m_Keyring_replaceSigner) 45 = .ok (.return_, 1) := by decide +kernel
theorem d_K_emergency_0 : decode (mC m_K_emergency) 0 = .ok (.aload_n 0, 1) := by decide +kernel
theorem d_K_emergency_1 : decode (mC m_K_emergency) 1 = .ok (.getfield 70, 3) := by decide +kernel
theorem d_K_emergency_4 : decode (mC m_K_emergency) 4 = .ok (.getfield 341, 3) := by decide +kernel
theorem d_K_emergency_7 : decode (mC m_K_emergency) 7 = .ok (.iconst (-1), 1) := by decide +kernel
theorem d_K_emergency_8 : decode (mC m_K_emergency) 8 = .ok (.if_icmp .ne (15), 3) := by decide +kernel
theorem d_K_emergency_11 : decode (mC m_K_emergency) 11 = .ok (.aload_n 0, 1) := by decide +kernel
theorem d_K_emergency_12 : decode (mC m_K_emergency) 12 = .ok (.getfield 70, 3) := by decide +kernel
theorem d_K_emergency_15 : decode (mC m_K_emergency) 15 = .ok (.getfield 344, 3) := by decide +kernel
theorem d_K_emergency_18 : decode (mC m_K_emergency) 18 = .ok (.bipush (20), 2) := by decide +kernel
theorem d_K_emergency_20 : decode (mC m_K_emergency) 20 = .ok (.if_icmp .ge (7), 3) := by decide +kernel
theorem d_K_emergency_23 : decode (mC m_K_emergency) 23 = .ok (.iconst 1, 1) := by decide +kernel
theorem d_K_emergency_24 : decode (mC m_K_emergency) 24 = .ok (.goto (4), 3) := by decide +kernel
theorem d_K_emergency_27 : decode (mC m_K_emergency) 27 = .ok (.iconst 0, 1) := by decide +kernel
theorem d_K_emergency_28 : decode (mC m_K_emergency) 28 = .ok (.invokestatic 96, 3) := by decide +kernel
theorem d_K_emergency_31 : decode (mC m_K_emergency) 31 = .ok (.aload_n 0, 1) := by decide +kernel
theorem d_K_emergency_32 : decode (mC m_K_emergency) 32 = .ok (.getfield 70, 3) := by decide +kernel
theorem d_K_emergency_35 : decode (mC m_K_emergency) 35 = .ok (.invokevirtual 348, 3) := by decide +kernel
theorem d_K_emergency_38 : decode (mC m_K_emergency) 38 = .ok (.aload_n 0, 1) := by decide +kernel
theorem d_K_emergency_39 : decode (mC m_K_emergency) 39 = .ok (.getfield 10, 3) := by decide +kernel
theorem d_K_emergency_42 : decode (mC m_K_emergency) 42 = .ok (.iconst 5, 1) := by decide +kernel
theorem d_K_emergency_43 : decode (mC m_K_emergency) 43 = .ok (.aload_n 0, 1) := by decide +kernel
theorem d_K_emergency_44 : decode (mC m_K_emergency) 44 = .ok (.getfield 70, 3) := by decide +kernel
theorem d_K_emergency_47 : decode (mC m_K_emergency) 47 = .ok (.getfield 330, 3) := by decide +kernel
theorem d_K_emergency_50 : decode (mC m_K_emergency) 50 = .ok (.aload_n 0, 1) := by decide +kernel
theorem d_K_emergency_51 : decode (mC m_K_emergency) 51 = .ok (.getfield 92, 3) := by decide +kernel
theorem d_K_emergency_54 : decode (mC m_K_emergency) 54 = .ok (.invokevirtual 351, 3) := by decide +kernel
theorem d_K_emergency_57 : decode (mC m_K_emergency) 57 = .ok (.aload_n 0, 1) := by decide +kernel
theorem d_K_emergency_58 : decode (mC m_K_emergency) 58 = .ok (.getfield 70, 3) := by decide +kernel
theorem d_K_emergency_61 : decode (mC m_K_emergency) 61 = .ok (.getfield 330, 3) := by decide +kernel
theorem d_K_emergency_64 : decode (mC m_K_emergency) 64 = .ok (.ireturn, 1) := by decide +kernel
theorem d_W_emergency_0 : decode (mC m_W_emergency) 0 = .ok (.aload_n 1, 1) := by decide +kernel
theorem d_W_emergency_1 : decode (mC m_W_emergency) 1 = .ok (.iconst 0, 1) := by decide +kernel
theorem d_W_emergency_2 : decode (mC m_W_emergency) 2 = .ok (.aload_n 0, 1) := by decide +kernel
theorem d_W_emergency_3 : decode (mC m_W_emergency) 3 = .ok (.invokevirtual 121, 3) := by decide +kernel
theorem d_W_emergency_6 : decode (mC m_W_emergency) 6 = .ok (.i2l, 1) := by decide +kernel
theorem d_W_emergency_7 : decode (mC m_W_emergency) 7 = .ok (.lastore, 1) := by decide +kernel
theorem d_W_emergency_8 : decode (mC m_W_emergency) 8 = .ok (.goto (6), 3) := by decide +kernel
theorem d_W_emergency_11 : decode (mC m_W_emergency) 11 = .ok (.astore_n 2, 1) := by decide +kernel
theorem d_W_emergency_12 : decode (mC m_W_emergency) 12 = .ok (.iconst 1, 1) := by decide +kernel
theorem d_W_emergency_13 : decode (mC m_W_emergency) 13 = .ok (.ireturn, 1) := by decide +kernel
theorem d_W_emergency_14 : decode (mC m_W_emergency) 14 = .ok (.iconst 0, 1) := by decide +kernel
theorem d_W_emergency_15 : decode (mC m_W_emergency) 15 = .ok (.ireturn, 1) := by decide +kernel
theorem d_M_emergency_0 : decode (mC m_M_emergency) 0 = .ok (.aload_n 0, 1) := by decide +kernel
theorem d_M_emergency_1 : decode (mC m_M_emergency) 1 = .ok (.aload_n 0, 1) := by decide +kernel
theorem d_M_emergency_2 : decode (mC m_M_emergency) 2 = .ok (.getfield 174, 3) := by decide +kernel
theorem d_M_emergency_5 : decode (mC m_M_emergency) 5 = .ok (.iconst (-1), 1) := by decide +kernel
theorem d_M_emergency_6 : decode (mC m_M_emergency) 6 = .ok (.if_icmp .ne (12), 3) := by decide +kernel
theorem d_M_emergency_9 : decode (mC m_M_emergency) 9 = .ok (.aload_n 0, 1) := by decide +kernel
theorem d_M_emergency_10 : decode (mC m_M_emergency) 10 = .ok (.getfield 170, 3) := by decide +kernel
theorem d_M_emergency_13 : decode (mC m_M_emergency) 13 = .ok (.bipush (20), 2) := by decide +kernel
theorem d_M_emergency_15 : decode (mC m_M_emergency) 15 = .ok (.if_icmp .ge (7), 3) := by decide +kernel
theorem d_M_emergency_18 : decode (mC m_M_emergency) 18 = .ok (.iconst 1, 1) := by decide +kernel
theorem d_M_emergency_19 : decode (mC m_M_emergency) 19 = .ok (.goto (4), 3) := by decide +kernel
theorem d_M_emergency_22 : decode (mC m_M_emergency) 22 = .ok (.iconst 0, 1) := by decide +kernel
theorem d_M_emergency_23 : decode (mC m_M_emergency) 23 = .ok (.invokevirtual 251, 3) := by decide +kernel
theorem d_M_emergency_26 : decode (mC m_M_emergency) 26 = .ok (.ifCond .ne (5), 3) := by decide +kernel
theorem d_M_emergency_29 : decode (mC m_M_emergency) 29 = .ok (.iconst 0, 1) := by decide +kernel
theorem d_M_emergency_30 : decode (mC m_M_emergency) 30 = .ok (.ireturn, 1) := by decide +kernel
theorem d_M_emergency_31 : decode (mC m_M_emergency) 31 = .ok (.aload_n 0, 1) := by decide +kernel
theorem d_M_emergency_32 : decode (mC m_M_emergency) 32 = .ok (.getfield 177, 3) := by decide +kernel
theorem d_M_emergency_35 : decode (mC m_M_emergency) 35 = .ok (.aload_n 0, 1) := by decide +kernel
theorem d_M_emergency_36 : decode (mC m_M_emergency) 36 = .ok (.getfield 281, 3) := by decide +kernel
theorem d_M_emergency_39 : decode (mC m_M_emergency) 39 = .ok (.iconst 1, 1) := by decide +kernel
theorem d_M_emergency_40 : decode (mC m_M_emergency) 40 = .ok (.bastore, 1) := by decide +kernel
theorem d_M_emergency_41 : decode (mC m_M_emergency) 41 = .ok (.aload_n 0, 1) := by decide +kernel
theorem d_M_emergency_42 : decode (mC m_M_emergency) 42 = .ok (.getfield 174, 3) := by decide +kernel
theorem d_M_emergency_45 : decode (mC m_M_emergency) 45 = .ok (.iconst (-1), 1) := by decide +kernel
theorem d_M_emergency_46 : decode (mC m_M_emergency) 46 = .ok (.if_icmp .ne (21), 3) := by decide +kernel
theorem d_M_emergency_49 : decode (mC m_M_emergency) 49 = .ok (.aload_n 0, 1) := by decide +kernel
theorem d_M_emergency_50 : decode (mC m_M_emergency) 50 = .ok (.aload_n 0, 1) := by decide +kernel
theorem d_M_emergency_51 : decode (mC m_M_emergency) 51 = .ok (.getfield 170, 3) := by decide +kernel
theorem d_M_emergency_54 : decode (mC m_M_emergency) 54 = .ok (.putfield 174, 3) := by decide +kernel
theorem d_M_emergency_57 : decode (mC m_M_emergency) 57 = .ok (.aload_n 0, 1) := by decide +kernel
theorem d_M_emergency_58 : decode (mC m_M_emergency) 58 = .ok (.dup, 1) := by decide +kernel
theorem d_M_emergency_59 : decode (mC m_M_emergency) 59 = .ok (.getfield 170, 3) := by decide +kernel
theorem d_M_emergency_62 : decode (mC m_M_emergency) 62 = .ok (.iconst 1, 1) := by decide +kernel
theorem d_M_emergency_63 : decode (mC m_M_emergency) 63 = .ok (.iadd, 1) := by decide +kernel
theorem d_M_emergency_64 : decode (mC m_M_emergency) 64 = .ok (.putfield 170, 3) := by decide +kernel
theorem d_M_emergency_67 : decode (mC m_M_emergency) 67 = .ok (.aload_n 0, 1) := by decide +kernel
theorem d_M_emergency_68 : decode (mC m_M_emergency) 68 = .ok (.aload_n 0, 1) := by decide +kernel
theorem d_M_emergency_69 : decode (mC m_M_emergency) 69 = .ok (.getfield 174, 3) := by decide +kernel
theorem d_M_emergency_72 : decode (mC m_M_emergency) 72 = .ok (.putfield 281, 3) := by decide +kernel
theorem d_M_emergency_75 : decode (mC m_M_emergency) 75 = .ok (.aload_n 0, 1) := by decide +kernel
theorem d_M_emergency_76 : decode (mC m_M_emergency) 76 = .ok (.iconst (-1), 1) := by decide +kernel
theorem d_M_emergency_77 : decode (mC m_M_emergency) 77 = .ok (.putfield 174, 3) := by decide +kernel
theorem d_M_emergency_80 : decode (mC m_M_emergency) 80 = .ok (.aload_n 0, 1) := by decide +kernel
theorem d_M_emergency_81 : decode (mC m_M_emergency) 81 = .ok (.iconst 5, 1) := by decide +kernel
theorem d_M_emergency_82 : decode (mC m_M_emergency) 82 = .ok (.aload_n 0, 1) := by decide +kernel
theorem d_M_emergency_83 : decode (mC m_M_emergency) 83 = .ok (.getfield 281, 3) := by decide +kernel
theorem d_M_emergency_86 : decode (mC m_M_emergency) 86 = .ok (.invokevirtual 255, 3) := by decide +kernel
theorem d_M_emergency_89 : decode (mC m_M_emergency) 89 = .ok (.aload_n 0, 1) := by decide +kernel
theorem d_M_emergency_90 : decode (mC m_M_emergency) 90 = .ok (.getfield 281, 3) := by decide +kernel
theorem d_M_emergency_93 : decode (mC m_M_emergency) 93 = .ok (.ireturn, 1) := by decide +kernel
theorem d_K_signing_0 : decode (mC m_K_signing) 0 = .ok (.aload_n 0, 1) := by decide +kernel
theorem d_K_signing_1 : decode (mC m_K_signing) 1 = .ok (.getfield 70, 3) := by decide +kernel
theorem d_K_signing_4 : decode (mC m_K_signing) 4 = .ok (.getfield 330, 3) := by decide +kernel
theorem d_K_signing_7 : decode (mC m_K_signing) 7 = .ok (.ireturn, 1) := by decide +kernel
theorem d_M_signing_0 : decode (mC m_M_signing) 0 = .ok (.aload_n 0, 1) := by decide +kernel
theorem d_M_signing_1 : decode (mC m_M_signing) 1 = .ok (.iconst 0, 1) := by decide +kernel
theorem d_M_signing_2 : decode (mC m_M_signing) 2 = .ok (.putfield 225, 3) := by decide +kernel
theorem d_M_signing_5 : decode (mC m_M_signing) 5 = .ok (.aload_n 0, 1) := by decide +kernel
theorem d_M_signing_6 : decode (mC m_M_signing) 6 = .ok (.getfield 281, 3) := by decide +kernel
theorem d_M_signing_9 : decode (mC m_M_signing) 9 = .ok (.ireturn, 1) := by decide +kernel
theorem d_K_isPublished_0 : decode (mC m_K_isPublished) 0 = .ok (.iload_n 1, 1) := by decide +kernel
theorem d_K_isPublished_1 : decode (mC m_K_isPublished) 1 = .ok (.aload_n 0, 1) := by decide +kernel
theorem d_K_isPublished_2 : decode (mC m_K_isPublished) 2 = .ok (.getfield 70, 3) := by decide +kernel
theorem d_K_isPublished_5 : decode (mC m_K_isPublished) 5 = .ok (.getfield 344, 3) := by decide +kernel
theorem d_K_isPublished_8 : decode (mC m_K_isPublished) 8 = .ok (.invokestatic 148, 3) := by decide +kernel
theorem d_K_isPublished_11 : decode (mC m_K_isPublished) 11 = .ok (.iload_n 1, 1) := by decide +kernel
theorem d_K_isPublished_12 : decode (mC m_K_isPublished) 12 = .ok (.aload_n 0, 1) := by decide +kernel
theorem d_K_isPublished_13 : decode (mC m_K_isPublished) 13 = .ok (.getfield 70, 3) := by decide +kernel
theorem d_K_isPublished_16 : decode (mC m_K_isPublished) 16 = .ok (.getfield 355, 3) := by decide +kernel
theorem d_K_isPublished_19 : decode (mC m_K_isPublished) 19 = .ok (.invokestatic 358, 3) := by decide +kernel
theorem d_K_isPublished_22 : decode (mC m_K_isPublished) 22 = .ok (.ireturn, 1) := by decide +kernel
theorem d_W_isPublished_0 : decode (mC m_W_isPublished) 0 = .ok (.aload_n 2, 1) := by decide +kernel
theorem d_W_isPublished_1 : decode (mC m_W_isPublished) 1 = .ok (.iconst 0, 1) := by decide +kernel
theorem d_W_isPublished_2 : decode (mC m_W_isPublished) 2 = .ok (.aload_n 0, 1) := by decide +kernel
theorem d_W_isPublished_3 : decode (mC m_W_isPublished) 3 = .ok (.iload_n 1, 1) := by decide +kernel
theorem d_W_isPublished_4 : decode (mC m_W_isPublished) 4 = .ok (.invokevirtual 124, 3) := by decide +kernel
theorem d_W_isPublished_7 : decode (mC m_W_isPublished) 7 = .ok (.ifCond .eq (7), 3) := by decide +kernel
theorem d_W_isPublished_10 : decode (mC m_W_isPublished) 10 = .ok (.lconst 1, 1) := by decide +kernel
theorem d_W_isPublished_11 : decode (mC m_W_isPublished) 11 = .ok (.goto (4), 3) := by decide +kernel
theorem d_W_isPublished_14 : decode (mC m_W_isPublished) 14 = .ok (.lconst 0, 1) := by decide +kernel
theorem d_W_isPublished_15 : decode (mC m_W_isPublished) 15 = .ok (.lastore, 1) := by decide +kernel
theorem d_W_isPublished_16 : decode (mC m_W_isPublished) 16 = .ok (.goto (6), 3) := by decide +kernel
theorem d_W_isPublished_19 : decode (mC m_W_isPublished) 19 = .ok (.astore_n 3, 1) := by decide +kernel
theorem d_W_isPublished_20 : decode (mC m_W_isPublished) 20 = .ok (.iconst 1, 1) := by decide +kernel
theorem d_W_isPublished_21 : decode (mC m_W_isPublished) 21 = .ok (.ireturn, 1) := by decide +kernel
theorem d_W_isPublished_22 : decode (mC m_W_isPublished) 22 = .ok (.iconst 0, 1) := by decide +kernel
theorem d_W_isPublished_23 : decode (mC m_W_isPublished) 23 = .ok (.ireturn, 1) := by decide +kernel
theorem d_M_isOpenKey_0 : decode (mC m_M_isOpenKey) 0 = .ok (.iload_n 1, 1) := by decide +kernel
theorem d_M_isOpenKey_1 : decode (mC m_M_isOpenKey) 1 = .ok (.aload_n 0, 1) := by decide +kernel
theorem d_M_isOpenKey_2 : decode (mC m_M_isOpenKey) 2 = .ok (.getfield 170, 3) := by decide +kernel
theorem d_M_isOpenKey_5 : decode (mC m_M_isOpenKey) 5 = .ok (.if_icmp .ge (39), 3) := by decide +kernel
theorem d_M_isOpenKey_8 : decode (mC m_M_isOpenKey) 8 = .ok (.aload_n 0, 1) := by decide +kernel
theorem d_M_isOpenKey_9 : decode (mC m_M_isOpenKey) 9 = .ok (.getfield 177, 3) := by decide +kernel
theorem d_M_isOpenKey_12 : decode (mC m_M_isOpenKey) 12 = .ok (.iload_n 1, 1) := by decide +kernel
theorem d_M_isOpenKey_13 : decode (mC m_M_isOpenKey) 13 = .ok (.baload, 1) := by decide +kernel
theorem d_M_isOpenKey_14 : decode (mC m_M_isOpenKey) 14 = .ok (.ifCond .ne (30), 3) := by decide +kernel
theorem d_M_isOpenKey_17 : decode (mC m_M_isOpenKey) 17 = .ok (.aload_n 0, 1) := by decide +kernel
theorem d_M_isOpenKey_18 : decode (mC m_M_isOpenKey) 18 = .ok (.getfield 180, 3) := by decide +kernel
theorem d_M_isOpenKey_21 : decode (mC m_M_isOpenKey) 21 = .ok (.iload_n 1, 1) := by decide +kernel
theorem d_M_isOpenKey_22 : decode (mC m_M_isOpenKey) 22 = .ok (.iaload, 1) := by decide +kernel
theorem d_M_isOpenKey_23 : decode (mC m_M_isOpenKey) 23 = .ok (.iconst (-1), 1) := by decide +kernel
theorem d_M_isOpenKey_24 : decode (mC m_M_isOpenKey) 24 = .ok (.if_icmp .eq (16), 3) := by decide +kernel
theorem d_M_isOpenKey_27 : decode (mC m_M_isOpenKey) 27 = .ok (.aload_n 0, 1) := by decide +kernel
theorem d_M_isOpenKey_28 : decode (mC m_M_isOpenKey) 28 = .ok (.getfield 247, 3) := by decide +kernel
theorem d_M_isOpenKey_31 : decode (mC m_M_isOpenKey) 31 = .ok (.aload_n 0, 1) := by decide +kernel
theorem d_M_isOpenKey_32 : decode (mC m_M_isOpenKey) 32 = .ok (.getfield 180, 3) := by decide +kernel
theorem d_M_isOpenKey_35 : decode (mC m_M_isOpenKey) 35 = .ok (.iload_n 1, 1) := by decide +kernel
theorem d_M_isOpenKey_36 : decode (mC m_M_isOpenKey) 36 = .ok (.iaload, 1) := by decide +kernel
theorem d_M_isOpenKey_37 : decode (mC m_M_isOpenKey) 37 = .ok (.if_icmp .ge (7), 3) := by decide +kernel
theorem d_M_isOpenKey_40 : decode (mC m_M_isOpenKey) 40 = .ok (.iconst 1, 1) := by decide +kernel
theorem d_M_isOpenKey_41 : decode (mC m_M_isOpenKey) 41 = .ok (.goto (4), 3) := by decide +kernel
theorem d_M_isOpenKey_44 : decode (mC m_M_isOpenKey) 44 = .ok (.iconst 0, 1) := by decide +kernel
theorem d_M_isOpenKey_45 : decode (mC m_M_isOpenKey) 45 = .ok (.ireturn, 1) := by decide +kernel
theorem d_M_isPublished_0 : decode (mC m_M_isPublished) 0 = .ok (.aload_n 0, 1) := by decide +kernel
theorem d_M_isPublished_1 : decode (mC m_M_isPublished) 1 = .ok (.iload_n 1, 1) := by decide +kernel
theorem d_M_isPublished_2 : decode (mC m_M_isPublished) 2 = .ok (.iconst 0, 1) := by decide +kernel
theorem d_M_isPublished_3 : decode (mC m_M_isPublished) 3 = .ok (.aload_n 0, 1) := by decide +kernel
theorem d_M_isPublished_4 : decode (mC m_M_isPublished) 4 = .ok (.getfield 170, 3) := by decide +kernel
theorem d_M_isPublished_7 : decode (mC m_M_isPublished) 7 = .ok (.iconst 1, 1) := by decide +kernel
theorem d_M_isPublished_8 : decode (mC m_M_isPublished) 8 = .ok (.isub, 1) := by decide +kernel
theorem d_M_isPublished_9 : decode (mC m_M_isPublished) 9 = .ok (.invokestatic 228, 3) := by decide +kernel
theorem d_M_isPublished_12 : decode (mC m_M_isPublished) 12 = .ok (.invokevirtual 251, 3) := by decide +kernel
theorem d_M_isPublished_15 : decode (mC m_M_isPublished) 15 = .ok (.ifCond .eq (15), 3) := by decide +kernel
theorem d_M_isPublished_18 : decode (mC m_M_isPublished) 18 = .ok (.aload_n 0, 1) := by decide +kernel
theorem d_M_isPublished_19 : decode (mC m_M_isPublished) 19 = .ok (.iload_n 1, 1) := by decide +kernel
theorem d_M_isPublished_20 : decode (mC m_M_isPublished) 20 = .ok (.invokevirtual 377, 3) := by decide +kernel
theorem d_M_isPublished_23 : decode (mC m_M_isPublished) 23 = .ok (.ifCond .eq (7), 3) := by decide +kernel
theorem d_M_isPublished_26 : decode (mC m_M_isPublished) 26 = .ok (.iconst 1, 1) := by decide +kernel
theorem d_M_isPublished_27 : decode (mC m_M_isPublished) 27 = .ok (.goto (4), 3) := by decide +kernel
theorem d_M_isPublished_30 : decode (mC m_M_isPublished) 30 = .ok (.iconst 0, 1) := by decide +kernel
theorem d_M_isPublished_31 : decode (mC m_M_isPublished) 31 = .ok (.ireturn, 1) := by decide +kernel
theorem d_K_tellOfEnded_0 : decode (mC m_K_tellOfEnded) 0 = .ok (.iconst 0, 1) := by decide +kernel
theorem d_K_tellOfEnded_1 : decode (mC m_K_tellOfEnded) 1 = .ok (.istore_n 2, 1) := by decide +kernel
theorem d_K_tellOfEnded_2 : decode (mC m_K_tellOfEnded) 2 = .ok (.iconst 0, 1) := by decide +kernel
theorem d_K_tellOfEnded_3 : decode (mC m_K_tellOfEnded) 3 = .ok (.istore_n 3, 1) := by decide +kernel
theorem d_K_tellOfEnded_4 : decode (mC m_K_tellOfEnded) 4 = .ok (.iload_n 3, 1) := by decide +kernel
theorem d_K_tellOfEnded_5 : decode (mC m_K_tellOfEnded) 5 = .ok (.aload_n 0, 1) := by decide +kernel
theorem d_K_tellOfEnded_6 : decode (mC m_K_tellOfEnded) 6 = .ok (.getfield 61, 3) := by decide +kernel
theorem d_K_tellOfEnded_9 : decode (mC m_K_tellOfEnded) 9 = .ok (.invokevirtual 134, 3) := by decide +kernel
theorem d_K_tellOfEnded_12 : decode (mC m_K_tellOfEnded) 12 = .ok (.if_icmp .ge (42), 3) := by decide +kernel
theorem d_K_tellOfEnded_15 : decode (mC m_K_tellOfEnded) 15 = .ok (.aload_n 0, 1) := by decide +kernel
theorem d_K_tellOfEnded_16 : decode (mC m_K_tellOfEnded) 16 = .ok (.getfield 61, 3) := by decide +kernel
theorem d_K_tellOfEnded_19 : decode (mC m_K_tellOfEnded) 19 = .ok (.iload_n 3, 1) := by decide +kernel
theorem d_K_tellOfEnded_20 : decode (mC m_K_tellOfEnded) 20 = .ok (.invokevirtual 152, 3) := by decide +kernel
theorem d_K_tellOfEnded_23 : decode (mC m_K_tellOfEnded) 23 = .ok (.checkcast 256, 3) := by decide +kernel
theorem d_K_tellOfEnded_26 : decode (mC m_K_tellOfEnded) 26 = .ok (.astore 4, 2) := by decide +kernel
theorem d_K_tellOfEnded_28 : decode (mC m_K_tellOfEnded) 28 = .ok (.aload 4, 2) := by decide +kernel
theorem d_K_tellOfEnded_30 : decode (mC m_K_tellOfEnded) 30 = .ok (.getfield 258, 3) := by decide +kernel
theorem d_K_tellOfEnded_33 : decode (mC m_K_tellOfEnded) 33 = .ok (.ifCond .ne (15), 3) := by decide +kernel
theorem d_K_tellOfEnded_36 : decode (mC m_K_tellOfEnded) 36 = .ok (.aload 4, 2) := by decide +kernel
theorem d_K_tellOfEnded_38 : decode (mC m_K_tellOfEnded) 38 = .ok (.iload_n 1, 1) := by decide +kernel
theorem d_K_tellOfEnded_39 : decode (mC m_K_tellOfEnded) 39 = .ok (.invokevirtual 547, 3) := by decide +kernel
theorem d_K_tellOfEnded_42 : decode (mC m_K_tellOfEnded) 42 = .ok (.ifCond .eq (6), 3) := by decide +kernel
theorem d_K_tellOfEnded_45 : decode (mC m_K_tellOfEnded) 45 = .ok (.iinc 2 (1), 3) := by decide +kernel
theorem d_K_tellOfEnded_48 : decode (mC m_K_tellOfEnded) 48 = .ok (.iinc 3 (1), 3) := by decide +kernel
theorem d_K_tellOfEnded_51 : decode (mC m_K_tellOfEnded) 51 = .ok (.goto (-47), 3) := by decide +kernel
theorem d_K_tellOfEnded_54 : decode (mC m_K_tellOfEnded) 54 = .ok (.iload_n 2, 1) := by decide +kernel
theorem d_K_tellOfEnded_55 : decode (mC m_K_tellOfEnded) 55 = .ok (.ireturn, 1) := by decide +kernel
theorem d_K_line_0 : decode (mC m_K_line) 0 = .ok (.aload_n 0, 1) := by decide +kernel
theorem d_K_line_1 : decode (mC m_K_line) 1 = .ok (.iload_n 1, 1) := by decide +kernel
theorem d_K_line_2 : decode (mC m_K_line) 2 = .ok (.invokevirtual 270, 3) := by decide +kernel
theorem d_K_line_5 : decode (mC m_K_line) 5 = .ok (.astore_n 2, 1) := by decide +kernel
theorem d_K_line_6 : decode (mC m_K_line) 6 = .ok (.aload_n 2, 1) := by decide +kernel
theorem d_K_line_7 : decode (mC m_K_line) 7 = .ok (.aload_n 2, 1) := by decide +kernel
theorem d_K_line_8 : decode (mC m_K_line) 8 = .ok (.getfield 361, 3) := by decide +kernel
theorem d_K_line_11 : decode (mC m_K_line) 11 = .ok (.ifCond .ne (7), 3) := by decide +kernel
theorem d_K_line_14 : decode (mC m_K_line) 14 = .ok (.iconst 1, 1) := by decide +kernel
theorem d_K_line_15 : decode (mC m_K_line) 15 = .ok (.goto (4), 3) := by decide +kernel
theorem d_K_line_18 : decode (mC m_K_line) 18 = .ok (.iconst 0, 1) := by decide +kernel
theorem d_K_line_19 : decode (mC m_K_line) 19 = .ok (.putfield 361, 3) := by decide +kernel
theorem d_K_line_22 : decode (mC m_K_line) 22 = .ok (.aload_n 2, 1) := by decide +kernel
theorem d_K_line_23 : decode (mC m_K_line) 23 = .ok (.getfield 361, 3) := by decide +kernel
theorem d_K_line_26 : decode (mC m_K_line) 26 = .ok (.ifCond .eq (11), 3) := by decide +kernel
theorem d_K_line_29 : decode (mC m_K_line) 29 = .ok (.aload_n 0, 1) := by decide +kernel
theorem d_K_line_30 : decode (mC m_K_line) 30 = .ok (.iload_n 1, 1) := by decide +kernel
theorem d_K_line_31 : decode (mC m_K_line) 31 = .ok (.invokevirtual 364, 3) := by decide +kernel
theorem d_K_line_34 : decode (mC m_K_line) 34 = .ok (.goto (4), 3) := by decide +kernel
theorem d_K_line_37 : decode (mC m_K_line) 37 = .ok (.iconst 0, 1) := by decide +kernel
theorem d_K_line_38 : decode (mC m_K_line) 38 = .ok (.ireturn, 1) := by decide +kernel
theorem d_W_line_0 : decode (mC m_W_line) 0 = .ok (.aload_n 2, 1) := by decide +kernel
theorem d_W_line_1 : decode (mC m_W_line) 1 = .ok (.iconst 0, 1) := by decide +kernel
theorem d_W_line_2 : decode (mC m_W_line) 2 = .ok (.aload_n 0, 1) := by decide +kernel
theorem d_W_line_3 : decode (mC m_W_line) 3 = .ok (.iload_n 1, 1) := by decide +kernel
theorem d_W_line_4 : decode (mC m_W_line) 4 = .ok (.invokevirtual 127, 3) := by decide +kernel
theorem d_W_line_7 : decode (mC m_W_line) 7 = .ok (.i2l, 1) := by decide +kernel
theorem d_W_line_8 : decode (mC m_W_line) 8 = .ok (.lastore, 1) := by decide +kernel
theorem d_W_line_9 : decode (mC m_W_line) 9 = .ok (.goto (6), 3) := by decide +kernel
theorem d_W_line_12 : decode (mC m_W_line) 12 = .ok (.astore_n 3, 1) := by decide +kernel
theorem d_W_line_13 : decode (mC m_W_line) 13 = .ok (.iconst 1, 1) := by decide +kernel
theorem d_W_line_14 : decode (mC m_W_line) 14 = .ok (.ireturn, 1) := by decide +kernel
theorem d_W_line_15 : decode (mC m_W_line) 15 = .ok (.iconst 0, 1) := by decide +kernel
theorem d_W_line_16 : decode (mC m_W_line) 16 = .ok (.ireturn, 1) := by decide +kernel
theorem d_M_line_0 : decode (mC m_M_line) 0 = .ok (.aload_n 0, 1) := by decide +kernel
theorem d_M_line_1 : decode (mC m_M_line) 1 = .ok (.iload_n 1, 1) := by decide +kernel
theorem d_M_line_2 : decode (mC m_M_line) 2 = .ok (.invokestatic 358, 3) := by decide +kernel
theorem d_M_line_5 : decode (mC m_M_line) 5 = .ok (.invokevirtual 251, 3) := by decide +kernel
theorem d_M_line_8 : decode (mC m_M_line) 8 = .ok (.ifCond .ne (5), 3) := by decide +kernel
theorem d_M_line_11 : decode (mC m_M_line) 11 = .ok (.iconst 0, 1) := by decide +kernel
theorem d_M_line_12 : decode (mC m_M_line) 12 = .ok (.ireturn, 1) := by decide +kernel
theorem d_M_line_13 : decode (mC m_M_line) 13 = .ok (.aload_n 0, 1) := by decide +kernel
theorem d_M_line_14 : decode (mC m_M_line) 14 = .ok (.getfield 183, 3) := by decide +kernel
theorem d_M_line_17 : decode (mC m_M_line) 17 = .ok (.iload_n 1, 1) := by decide +kernel
theorem d_M_line_18 : decode (mC m_M_line) 18 = .ok (.aload_n 0, 1) := by decide +kernel
theorem d_M_line_19 : decode (mC m_M_line) 19 = .ok (.getfield 183, 3) := by decide +kernel
theorem d_M_line_22 : decode (mC m_M_line) 22 = .ok (.iload_n 1, 1) := by decide +kernel
theorem d_M_line_23 : decode (mC m_M_line) 23 = .ok (.baload, 1) := by decide +kernel
theorem d_M_line_24 : decode (mC m_M_line) 24 = .ok (.ifCond .ne (7), 3) := by decide +kernel
theorem d_M_line_27 : decode (mC m_M_line) 27 = .ok (.iconst 1, 1) := by decide +kernel
theorem d_M_line_28 : decode (mC m_M_line) 28 = .ok (.goto (4), 3) := by decide +kernel
theorem d_M_line_31 : decode (mC m_M_line) 31 = .ok (.iconst 0, 1) := by decide +kernel
theorem d_M_line_32 : decode (mC m_M_line) 32 = .ok (.bastore, 1) := by decide +kernel
theorem d_M_line_33 : decode (mC m_M_line) 33 = .ok (.iconst 0, 1) := by decide +kernel
theorem d_M_line_34 : decode (mC m_M_line) 34 = .ok (.istore_n 2, 1) := by decide +kernel
theorem d_M_line_35 : decode (mC m_M_line) 35 = .ok (.iconst 0, 1) := by decide +kernel
theorem d_M_line_36 : decode (mC m_M_line) 36 = .ok (.istore_n 3, 1) := by decide +kernel
theorem d_M_line_37 : decode (mC m_M_line) 37 = .ok (.iload_n 3, 1) := by decide +kernel
theorem d_M_line_38 : decode (mC m_M_line) 38 = .ok (.aload_n 0, 1) := by decide +kernel
theorem d_M_line_39 : decode (mC m_M_line) 39 = .ok (.getfield 238, 3) := by decide +kernel
theorem d_M_line_42 : decode (mC m_M_line) 42 = .ok (.if_icmp .ge (105), 3) := by decide +kernel
theorem d_M_line_45 : decode (mC m_M_line) 45 = .ok (.aload_n 0, 1) := by decide +kernel
theorem d_M_line_46 : decode (mC m_M_line) 46 = .ok (.getfield 183, 3) := by decide +kernel
theorem d_M_line_49 : decode (mC m_M_line) 49 = .ok (.iload_n 1, 1) := by decide +kernel
theorem d_M_line_50 : decode (mC m_M_line) 50 = .ok (.baload, 1) := by decide +kernel
theorem d_M_line_51 : decode (mC m_M_line) 51 = .ok (.ifCond .ne (96), 3) := by decide +kernel
theorem d_M_line_54 : decode (mC m_M_line) 54 = .ok (.aload_n 0, 1) := by decide +kernel
theorem d_M_line_55 : decode (mC m_M_line) 55 = .ok (.getfield 146, 3) := by decide +kernel
theorem d_M_line_58 : decode (mC m_M_line) 58 = .ok (.iload_n 3, 1) := by decide +kernel
theorem d_M_line_59 : decode (mC m_M_line) 59 = .ok (.baload, 1) := by decide +kernel
theorem d_M_line_60 : decode (mC m_M_line) 60 = .ok (.ifCond .ne (30), 3) := by decide +kernel
theorem d_M_line_63 : decode (mC m_M_line) 63 = .ok (.aload_n 0, 1) := by decide +kernel
theorem d_M_line_64 : decode (mC m_M_line) 64 = .ok (.getfield 192, 3) := by decide +kernel
theorem d_M_line_67 : decode (mC m_M_line) 67 = .ok (.bipush (60), 2) := by decide +kernel
theorem d_M_line_69 : decode (mC m_M_line) 69 = .ok (.iload_n 1, 1) := by decide +kernel
theorem d_M_line_70 : decode (mC m_M_line) 70 = .ok (.imul, 1) := by decide +kernel
theorem d_M_line_71 : decode (mC m_M_line) 71 = .ok (.iload_n 3, 1) := by decide +kernel
theorem d_M_line_72 : decode (mC m_M_line) 72 = .ok (.iadd, 1) := by decide +kernel
theorem d_M_line_73 : decode (mC m_M_line) 73 = .ok (.baload, 1) := by decide +kernel
theorem d_M_line_74 : decode (mC m_M_line) 74 = .ok (.ifCond .ne (16), 3) := by decide +kernel
theorem d_M_line_77 : decode (mC m_M_line) 77 = .ok (.aload_n 0, 1) := by decide +kernel
theorem d_M_line_78 : decode (mC m_M_line) 78 = .ok (.iload_n 1, 1) := by decide +kernel
theorem d_M_line_79 : decode (mC m_M_line) 79 = .ok (.iload_n 3, 1) := by decide +kernel
theorem d_M_line_80 : decode (mC m_M_line) 80 = .ok (.invokevirtual 259, 3) := by decide +kernel
theorem d_M_line_83 : decode (mC m_M_line) 83 = .ok (.ifCond .eq (7), 3) := by decide +kernel
theorem d_M_line_86 : decode (mC m_M_line) 86 = .ok (.iconst 1, 1) := by decide +kernel
theorem d_M_line_87 : decode (mC m_M_line) 87 = .ok (.goto (4), 3) := by decide +kernel
theorem d_M_line_90 : decode (mC m_M_line) 90 = .ok (.iconst 0, 1) := by decide +kernel
theorem d_M_line_91 : decode (mC m_M_line) 91 = .ok (.istore 4, 2) := by decide +kernel
theorem d_M_line_93 : decode (mC m_M_line) 93 = .ok (.aload_n 0, 1) := by decide +kernel
theorem d_M_line_94 : decode (mC m_M_line) 94 = .ok (.getfield 192, 3) := by decide +kernel
theorem d_M_line_97 : decode (mC m_M_line) 97 = .ok (.bipush (60), 2) := by decide +kernel
theorem d_M_line_99 : decode (mC m_M_line) 99 = .ok (.iload_n 1, 1) := by decide +kernel
theorem d_M_line_100 : decode (mC m_M_line) 100 = .ok (.imul, 1) := by decide +kernel
theorem d_M_line_101 : decode (mC m_M_line) 101 = .ok (.iload_n 3, 1) := by decide +kernel
theorem d_M_line_102 : decode (mC m_M_line) 102 = .ok (.iadd, 1) := by decide +kernel
theorem d_M_line_103 : decode (mC m_M_line) 103 = .ok (.aload_n 0, 1) := by decide +kernel
theorem d_M_line_104 : decode (mC m_M_line) 104 = .ok (.getfield 192, 3) := by decide +kernel
theorem d_M_line_107 : decode (mC m_M_line) 107 = .ok (.bipush (60), 2) := by decide +kernel
theorem d_M_line_109 : decode (mC m_M_line) 109 = .ok (.iload_n 1, 1) := by decide +kernel
theorem d_M_line_110 : decode (mC m_M_line) 110 = .ok (.imul, 1) := by decide +kernel
theorem d_M_line_111 : decode (mC m_M_line) 111 = .ok (.iload_n 3, 1) := by decide +kernel
theorem d_M_line_112 : decode (mC m_M_line) 112 = .ok (.iadd, 1) := by decide +kernel
theorem d_M_line_113 : decode (mC m_M_line) 113 = .ok (.baload, 1) := by decide +kernel
theorem d_M_line_114 : decode (mC m_M_line) 114 = .ok (.ifCond .ne (8), 3) := by decide +kernel
theorem d_M_line_117 : decode (mC m_M_line) 117 = .ok (.iload 4, 2) := by decide +kernel
theorem d_M_line_119 : decode (mC m_M_line) 119 = .ok (.ifCond .eq (7), 3) := by decide +kernel
theorem d_M_line_122 : decode (mC m_M_line) 122 = .ok (.iconst 1, 1) := by decide +kernel
theorem d_M_line_123 : decode (mC m_M_line) 123 = .ok (.goto (4), 3) := by decide +kernel
theorem d_M_line_126 : decode (mC m_M_line) 126 = .ok (.iconst 0, 1) := by decide +kernel
theorem d_M_line_127 : decode (mC m_M_line) 127 = .ok (.bastore, 1) := by decide +kernel
theorem d_M_line_128 : decode (mC m_M_line) 128 = .ok (.iload_n 2, 1) := by decide +kernel
theorem d_M_line_129 : decode (mC m_M_line) 129 = .ok (.iload 4, 2) := by decide +kernel
theorem d_M_line_131 : decode (mC m_M_line) 131 = .ok (.ifCond .eq (7), 3) := by decide +kernel
theorem d_M_line_134 : decode (mC m_M_line) 134 = .ok (.iconst 1, 1) := by decide +kernel
theorem d_M_line_135 : decode (mC m_M_line) 135 = .ok (.goto (4), 3) := by decide +kernel
theorem d_M_line_138 : decode (mC m_M_line) 138 = .ok (.iconst 0, 1) := by decide +kernel
theorem d_M_line_139 : decode (mC m_M_line) 139 = .ok (.iadd, 1) := by decide +kernel
theorem d_M_line_140 : decode (mC m_M_line) 140 = .ok (.istore_n 2, 1) := by decide +kernel
theorem d_M_line_141 : decode (mC m_M_line) 141 = .ok (.iinc 3 (1), 3) := by decide +kernel
theorem d_M_line_144 : decode (mC m_M_line) 144 = .ok (.goto (-107), 3) := by decide +kernel
theorem d_M_line_147 : decode (mC m_M_line) 147 = .ok (.iload_n 2, 1) := by decide +kernel
theorem d_M_line_148 : decode (mC m_M_line) 148 = .ok (.ireturn, 1) := by decide +kernel
theorem d_K_fetchKeys_0 : decode (mC m_K_fetchKeys) 0 = .ok (.aload_n 0, 1) := by decide +kernel
theorem d_K_fetchKeys_1 : decode (mC m_K_fetchKeys) 1 = .ok (.getfield 92, 3) := by decide +kernel
theorem d_K_fetchKeys_4 : decode (mC m_K_fetchKeys) 4 = .ok (.aload_n 1, 1) := by decide +kernel
theorem d_K_fetchKeys_5 : decode (mC m_K_fetchKeys) 5 = .ok (.getfield 558, 3) := by decide +kernel
theorem d_K_fetchKeys_8 : decode (mC m_K_fetchKeys) 8 = .ok (.isub, 1) := by decide +kernel
theorem d_K_fetchKeys_9 : decode (mC m_K_fetchKeys) 9 = .ok (.bipush (15), 2) := by decide +kernel
theorem d_K_fetchKeys_11 : decode (mC m_K_fetchKeys) 11 = .ok (.if_icmp .gt (14), 3) := by decide +kernel
theorem d_K_fetchKeys_14 : decode (mC m_K_fetchKeys) 14 = .ok (.iload_n 2, 1) := by decide +kernel
theorem d_K_fetchKeys_15 : decode (mC m_K_fetchKeys) 15 = .ok (.aload_n 1, 1) := by decide +kernel
theorem d_K_fetchKeys_16 : decode (mC m_K_fetchKeys) 16 = .ok (.getfield 374, 3) := by decide +kernel
theorem d_K_fetchKeys_19 : decode (mC m_K_fetchKeys) 19 = .ok (.invokestatic 358, 3) := by decide +kernel
theorem d_K_fetchKeys_22 : decode (mC m_K_fetchKeys) 22 = .ok (.ifCond .ne (7), 3) := by decide +kernel
theorem d_K_fetchKeys_25 : decode (mC m_K_fetchKeys) 25 = .ok (.iconst 1, 1) := by decide +kernel
theorem d_K_fetchKeys_26 : decode (mC m_K_fetchKeys) 26 = .ok (.goto (4), 3) := by decide +kernel
theorem d_K_fetchKeys_29 : decode (mC m_K_fetchKeys) 29 = .ok (.iconst 0, 1) := by decide +kernel
theorem d_K_fetchKeys_30 : decode (mC m_K_fetchKeys) 30 = .ok (.istore_n 3, 1) := by decide +kernel
theorem d_K_fetchKeys_31 : decode (mC m_K_fetchKeys) 31 = .ok (.aload_n 1, 1) := by decide +kernel
theorem d_K_fetchKeys_32 : decode (mC m_K_fetchKeys) 32 = .ok (.getfield 361, 3) := by decide +kernel
theorem d_K_fetchKeys_35 : decode (mC m_K_fetchKeys) 35 = .ok (.ifCond .eq (26), 3) := by decide +kernel
theorem d_K_fetchKeys_38 : decode (mC m_K_fetchKeys) 38 = .ok (.iload_n 3, 1) := by decide +kernel
theorem d_K_fetchKeys_39 : decode (mC m_K_fetchKeys) 39 = .ok (.ifCond .eq (22), 3) := by decide +kernel
theorem d_K_fetchKeys_42 : decode (mC m_K_fetchKeys) 42 = .ok (.aload_n 1, 1) := by decide +kernel
theorem d_K_fetchKeys_43 : decode (mC m_K_fetchKeys) 43 = .ok (.aload_n 0, 1) := by decide +kernel
theorem d_K_fetchKeys_44 : decode (mC m_K_fetchKeys) 44 = .ok (.getfield 70, 3) := by decide +kernel
theorem d_K_fetchKeys_47 : decode (mC m_K_fetchKeys) 47 = .ok (.getfield 355, 3) := by decide +kernel
theorem d_K_fetchKeys_50 : decode (mC m_K_fetchKeys) 50 = .ok (.putfield 374, 3) := by decide +kernel
theorem d_K_fetchKeys_53 : decode (mC m_K_fetchKeys) 53 = .ok (.aload_n 1, 1) := by decide +kernel
theorem d_K_fetchKeys_54 : decode (mC m_K_fetchKeys) 54 = .ok (.aload_n 0, 1) := by decide +kernel
theorem d_K_fetchKeys_55 : decode (mC m_K_fetchKeys) 55 = .ok (.getfield 92, 3) := by decide +kernel
theorem d_K_fetchKeys_58 : decode (mC m_K_fetchKeys) 58 = .ok (.putfield 558, 3) := by decide +kernel
theorem d_K_fetchKeys_61 : decode (mC m_K_fetchKeys) 61 = .ok (.return_, 1) := by decide +kernel
theorem d_K_check_0 : decode (mC m_K_check) 0 = .ok (.aload_n 0, 1) := by decide +kernel
theorem d_K_check_1 : decode (mC m_K_check) 1 = .ok (.iload_n 1, 1) := by decide +kernel
theorem d_K_check_2 : decode (mC m_K_check) 2 = .ok (.invokevirtual 270, 3) := by decide +kernel
theorem d_K_check_5 : decode (mC m_K_check) 5 = .ok (.astore 4, 2) := by decide +kernel
theorem d_K_check_7 : decode (mC m_K_check) 7 = .ok (.aload_n 0, 1) := by decide +kernel
theorem d_K_check_8 : decode (mC m_K_check) 8 = .ok (.iload_n 2, 1) := by decide +kernel
theorem d_K_check_9 : decode (mC m_K_check) 9 = .ok (.invokevirtual 309, 3) := by decide +kernel
theorem d_K_check_12 : decode (mC m_K_check) 12 = .ok (.astore 5, 2) := by decide +kernel
theorem d_K_check_14 : decode (mC m_K_check) 14 = .ok (.iload_n 3, 1) := by decide +kernel
theorem d_K_check_15 : decode (mC m_K_check) 15 = .ok (.iconst 0, 1) := by decide +kernel
theorem d_K_check_16 : decode (mC m_K_check) 16 = .ok (.iconst 3, 1) := by decide +kernel
theorem d_K_check_17 : decode (mC m_K_check) 17 = .ok (.invokestatic 84, 3) := by decide +kernel
theorem d_K_check_20 : decode (mC m_K_check) 20 = .ok (.invokestatic 88, 3) := by decide +kernel
theorem d_K_check_23 : decode (mC m_K_check) 23 = .ok (.aload 5, 2) := by decide +kernel
theorem d_K_check_25 : decode (mC m_K_check) 25 = .ok (.getfield 327, 3) := by decide +kernel
theorem d_K_check_28 : decode (mC m_K_check) 28 = .ok (.iload_n 1, 1) := by decide +kernel
theorem d_K_check_29 : decode (mC m_K_check) 29 = .ok (.if_icmp .eq (5), 3) := by decide +kernel
theorem d_K_check_32 : decode (mC m_K_check) 32 = .ok (.iconst 1, 1) := by decide +kernel
theorem d_K_check_33 : decode (mC m_K_check) 33 = .ok (.ireturn, 1) := by decide +kernel
theorem d_K_check_34 : decode (mC m_K_check) 34 = .ok (.aload_n 0, 1) := by decide +kernel
theorem d_K_check_35 : decode (mC m_K_check) 35 = .ok (.getfield 92, 3) := by decide +kernel
theorem d_K_check_38 : decode (mC m_K_check) 38 = .ok (.aload 5, 2) := by decide +kernel
theorem d_K_check_40 : decode (mC m_K_check) 40 = .ok (.getfield 318, 3) := by decide +kernel
theorem d_K_check_43 : decode (mC m_K_check) 43 = .ok (.if_icmp .le (5), 3) := by decide +kernel
theorem d_K_check_46 : decode (mC m_K_check) 46 = .ok (.iconst 2, 1) := by decide +kernel
theorem d_K_check_47 : decode (mC m_K_check) 47 = .ok (.ireturn, 1) := by decide +kernel
theorem d_K_check_48 : decode (mC m_K_check) 48 = .ok (.aload_n 0, 1) := by decide +kernel
theorem d_K_check_49 : decode (mC m_K_check) 49 = .ok (.aload 4, 2) := by decide +kernel
theorem d_K_check_51 : decode (mC m_K_check) 51 = .ok (.aload 5, 2) := by decide +kernel
theorem d_K_check_53 : decode (mC m_K_check) 53 = .ok (.getfield 367, 3) := by decide +kernel
theorem d_K_check_56 : decode (mC m_K_check) 56 = .ok (.invokevirtual 370, 3) := by decide +kernel
theorem d_K_check_59 : decode (mC m_K_check) 59 = .ok (.aload 5, 2) := by decide +kernel
theorem d_K_check_61 : decode (mC m_K_check) 61 = .ok (.getfield 367, 3) := by decide +kernel
theorem d_K_check_64 : decode (mC m_K_check) 64 = .ok (.aload 4, 2) := by decide +kernel
theorem d_K_check_66 : decode (mC m_K_check) 66 = .ok (.getfield 374, 3) := by decide +kernel
theorem d_K_check_69 : decode (mC m_K_check) 69 = .ok (.invokestatic 358, 3) := by decide +kernel
theorem d_K_check_72 : decode (mC m_K_check) 72 = .ok (.ifCond .ne (5), 3) := by decide +kernel
theorem d_K_check_75 : decode (mC m_K_check) 75 = .ok (.iconst 3, 1) := by decide +kernel
theorem d_K_check_76 : decode (mC m_K_check) 76 = .ok (.ireturn, 1) := by decide +kernel
theorem d_K_check_77 : decode (mC m_K_check) 77 = .ok (.iload_n 1, 1) := by decide +kernel
theorem d_K_check_78 : decode (mC m_K_check) 78 = .ok (.aload 5, 2) := by decide +kernel
theorem d_K_check_80 : decode (mC m_K_check) 80 = .ok (.getfield 321, 3) := by decide +kernel
theorem d_K_check_83 : decode (mC m_K_check) 83 = .ok (.getfield 377, 3) := by decide +kernel
theorem d_K_check_86 : decode (mC m_K_check) 86 = .ok (.invokestatic 358, 3) := by decide +kernel
theorem d_K_check_89 : decode (mC m_K_check) 89 = .ok (.ifCond .eq (5), 3) := by decide +kernel
theorem d_K_check_92 : decode (mC m_K_check) 92 = .ok (.iconst 4, 1) := by decide +kernel
theorem d_K_check_93 : decode (mC m_K_check) 93 = .ok (.ireturn, 1) := by decide +kernel
theorem d_K_check_94 : decode (mC m_K_check) 94 = .ok (.iload_n 3, 1) := by decide +kernel
theorem d_K_check_95 : decode (mC m_K_check) 95 = .ok (.aload 5, 2) := by decide +kernel
theorem d_K_check_97 : decode (mC m_K_check) 97 = .ok (.getfield 313, 3) := by decide +kernel
theorem d_K_check_100 : decode (mC m_K_check) 100 = .ok (.invokestatic 358, 3) := by decide +kernel
theorem d_K_check_103 : decode (mC m_K_check) 103 = .ok (.ifCond .eq (7), 3) := by decide +kernel
theorem d_K_check_106 : decode (mC m_K_check) 106 = .ok (.iconst 0, 1) := by decide +kernel
theorem d_K_check_107 : decode (mC m_K_check) 107 = .ok (.goto (4), 3) := by decide +kernel
theorem d_K_check_110 : decode (mC m_K_check) 110 = .ok (.iconst 5, 1) := by decide +kernel
theorem d_K_check_111 : decode (mC m_K_check) 111 = .ok (.ireturn, 1) := by decide +kernel
theorem d_W_check_0 : decode (mC m_W_check) 0 = .ok (.aload 4, 2) := by decide +kernel
theorem d_W_check_2 : decode (mC m_W_check) 2 = .ok (.iconst 0, 1) := by decide +kernel
theorem d_W_check_3 : decode (mC m_W_check) 3 = .ok (.aload_n 0, 1) := by decide +kernel
theorem d_W_check_4 : decode (mC m_W_check) 4 = .ok (.iload_n 1, 1) := by decide +kernel
theorem d_W_check_5 : decode (mC m_W_check) 5 = .ok (.iload_n 2, 1) := by decide +kernel
theorem d_W_check_6 : decode (mC m_W_check) 6 = .ok (.iload_n 3, 1) := by decide +kernel
theorem d_W_check_7 : decode (mC m_W_check) 7 = .ok (.invokevirtual 130, 3) := by decide +kernel
theorem d_W_check_10 : decode (mC m_W_check) 10 = .ok (.i2l, 1) := by decide +kernel
theorem d_W_check_11 : decode (mC m_W_check) 11 = .ok (.lastore, 1) := by decide +kernel
theorem d_W_check_12 : decode (mC m_W_check) 12 = .ok (.goto (11), 3) := by decide +kernel
theorem d_W_check_15 : decode (mC m_W_check) 15 = .ok (.astore 5, 2) := by decide +kernel
theorem d_W_check_17 : decode (mC m_W_check) 17 = .ok (.iconst 1, 1) := by decide +kernel
theorem d_W_check_18 : decode (mC m_W_check) 18 = .ok (.ireturn, 1) := by decide +kernel
theorem d_W_check_19 : decode (mC m_W_check) 19 = .ok (.astore 5, 2) := by decide +kernel
theorem d_W_check_21 : decode (mC m_W_check) 21 = .ok (.iconst 2, 1) := by decide +kernel
theorem d_W_check_22 : decode (mC m_W_check) 22 = .ok (.ireturn, 1) := by decide +kernel
theorem d_W_check_23 : decode (mC m_W_check) 23 = .ok (.iconst 0, 1) := by decide +kernel
theorem d_W_check_24 : decode (mC m_W_check) 24 = .ok (.ireturn, 1) := by decide +kernel
theorem d_M_check_0 : decode (mC m_M_check) 0 = .ok (.iload_n 1, 1) := by decide +kernel
theorem d_M_check_1 : decode (mC m_M_check) 1 = .ok (.invokestatic 358, 3) := by decide +kernel
theorem d_M_check_4 : decode (mC m_M_check) 4 = .ok (.ifCond .eq (15), 3) := by decide +kernel
theorem d_M_check_7 : decode (mC m_M_check) 7 = .ok (.aload_n 0, 1) := by decide +kernel
theorem d_M_check_8 : decode (mC m_M_check) 8 = .ok (.iload_n 2, 1) := by decide +kernel
theorem d_M_check_9 : decode (mC m_M_check) 9 = .ok (.invokevirtual 374, 3) := by decide +kernel
theorem d_M_check_12 : decode (mC m_M_check) 12 = .ok (.ifCond .eq (7), 3) := by decide +kernel
theorem d_M_check_15 : decode (mC m_M_check) 15 = .ok (.iconst 1, 1) := by decide +kernel
theorem d_M_check_16 : decode (mC m_M_check) 16 = .ok (.goto (4), 3) := by decide +kernel
theorem d_M_check_19 : decode (mC m_M_check) 19 = .ok (.iconst 0, 1) := by decide +kernel
theorem d_M_check_20 : decode (mC m_M_check) 20 = .ok (.istore 4, 2) := by decide +kernel
theorem d_M_check_22 : decode (mC m_M_check) 22 = .ok (.aload_n 0, 1) := by decide +kernel
theorem d_M_check_23 : decode (mC m_M_check) 23 = .ok (.iload 4, 2) := by decide +kernel
theorem d_M_check_25 : decode (mC m_M_check) 25 = .ok (.iload_n 3, 1) := by decide +kernel
theorem d_M_check_26 : decode (mC m_M_check) 26 = .ok (.iconst 0, 1) := by decide +kernel
theorem d_M_check_27 : decode (mC m_M_check) 27 = .ok (.iconst 3, 1) := by decide +kernel
theorem d_M_check_28 : decode (mC m_M_check) 28 = .ok (.invokestatic 228, 3) := by decide +kernel
theorem d_M_check_31 : decode (mC m_M_check) 31 = .ok (.invokevirtual 274, 3) := by decide +kernel
theorem d_M_check_34 : decode (mC m_M_check) 34 = .ok (.ifCond .ne (5), 3) := by decide +kernel
theorem d_M_check_37 : decode (mC m_M_check) 37 = .ok (.iconst 0, 1) := by decide +kernel
theorem d_M_check_38 : decode (mC m_M_check) 38 = .ok (.ireturn, 1) := by decide +kernel
theorem d_M_check_39 : decode (mC m_M_check) 39 = .ok (.aload_n 0, 1) := by decide +kernel
theorem d_M_check_40 : decode (mC m_M_check) 40 = .ok (.getfield 152, 3) := by decide +kernel
theorem d_M_check_43 : decode (mC m_M_check) 43 = .ok (.iload_n 2, 1) := by decide +kernel
theorem d_M_check_44 : decode (mC m_M_check) 44 = .ok (.iaload, 1) := by decide +kernel
theorem d_M_check_45 : decode (mC m_M_check) 45 = .ok (.iload_n 1, 1) := by decide +kernel
theorem d_M_check_46 : decode (mC m_M_check) 46 = .ok (.if_icmp .eq (5), 3) := by decide +kernel
theorem d_M_check_49 : decode (mC m_M_check) 49 = .ok (.iconst 1, 1) := by decide +kernel
theorem d_M_check_50 : decode (mC m_M_check) 50 = .ok (.ireturn, 1) := by decide +kernel
theorem d_M_check_51 : decode (mC m_M_check) 51 = .ok (.aload_n 0, 1) := by decide +kernel
theorem d_M_check_52 : decode (mC m_M_check) 52 = .ok (.getfield 247, 3) := by decide +kernel
theorem d_M_check_55 : decode (mC m_M_check) 55 = .ok (.aload_n 0, 1) := by decide +kernel
theorem d_M_check_56 : decode (mC m_M_check) 56 = .ok (.getfield 167, 3) := by decide +kernel
theorem d_M_check_59 : decode (mC m_M_check) 59 = .ok (.iload_n 2, 1) := by decide +kernel
theorem d_M_check_60 : decode (mC m_M_check) 60 = .ok (.iaload, 1) := by decide +kernel
theorem d_M_check_61 : decode (mC m_M_check) 61 = .ok (.if_icmp .le (5), 3) := by decide +kernel
theorem d_M_check_64 : decode (mC m_M_check) 64 = .ok (.iconst 2, 1) := by decide +kernel
theorem d_M_check_65 : decode (mC m_M_check) 65 = .ok (.ireturn, 1) := by decide +kernel
theorem d_M_check_66 : decode (mC m_M_check) 66 = .ok (.aload_n 0, 1) := by decide +kernel
theorem d_M_check_67 : decode (mC m_M_check) 67 = .ok (.getfield 183, 3) := by decide +kernel
theorem d_M_check_70 : decode (mC m_M_check) 70 = .ok (.iload_n 1, 1) := by decide +kernel
theorem d_M_check_71 : decode (mC m_M_check) 71 = .ok (.baload, 1) := by decide +kernel
theorem d_M_check_72 : decode (mC m_M_check) 72 = .ok (.ifCond .ne (96), 3) := by decide +kernel
theorem d_M_check_75 : decode (mC m_M_check) 75 = .ok (.aload_n 0, 1) := by decide +kernel
theorem d_M_check_76 : decode (mC m_M_check) 76 = .ok (.getfield 247, 3) := by decide +kernel
theorem d_M_check_79 : decode (mC m_M_check) 79 = .ok (.aload_n 0, 1) := by decide +kernel
theorem d_M_check_80 : decode (mC m_M_check) 80 = .ok (.getfield 189, 3) := by decide +kernel
theorem d_M_check_83 : decode (mC m_M_check) 83 = .ok (.iload_n 1, 1) := by decide +kernel
theorem d_M_check_84 : decode (mC m_M_check) 84 = .ok (.iaload, 1) := by decide +kernel
theorem d_M_check_85 : decode (mC m_M_check) 85 = .ok (.isub, 1) := by decide +kernel
theorem d_M_check_86 : decode (mC m_M_check) 86 = .ok (.bipush (15), 2) := by decide +kernel
theorem d_M_check_88 : decode (mC m_M_check) 88 = .ok (.if_icmp .gt (21), 3) := by decide +kernel
theorem d_M_check_91 : decode (mC m_M_check) 91 = .ok (.aload_n 0, 1) := by decide +kernel
theorem d_M_check_92 : decode (mC m_M_check) 92 = .ok (.getfield 186, 3) := by decide +kernel
theorem d_M_check_95 : decode (mC m_M_check) 95 = .ok (.iload_n 1, 1) := by decide +kernel
theorem d_M_check_96 : decode (mC m_M_check) 96 = .ok (.iaload, 1) := by decide +kernel
theorem d_M_check_97 : decode (mC m_M_check) 97 = .ok (.aload_n 0, 1) := by decide +kernel
theorem d_M_check_98 : decode (mC m_M_check) 98 = .ok (.getfield 164, 3) := by decide +kernel
theorem d_M_check_101 : decode (mC m_M_check) 101 = .ok (.iload_n 2, 1) := by decide +kernel
theorem d_M_check_102 : decode (mC m_M_check) 102 = .ok (.iaload, 1) := by decide +kernel
theorem d_M_check_103 : decode (mC m_M_check) 103 = .ok (.ishr, 1) := by decide +kernel
theorem d_M_check_104 : decode (mC m_M_check) 104 = .ok (.iconst 1, 1) := by decide +kernel
theorem d_M_check_105 : decode (mC m_M_check) 105 = .ok (.iand, 1) := by decide +kernel
theorem d_M_check_106 : decode (mC m_M_check) 106 = .ok (.ifCond .ne (62), 3) := by decide +kernel
theorem d_M_check_109 : decode (mC m_M_check) 109 = .ok (.aload_n 0, 1) := by decide +kernel
theorem d_M_check_110 : decode (mC m_M_check) 110 = .ok (.getfield 186, 3) := by decide +kernel
theorem d_M_check_113 : decode (mC m_M_check) 113 = .ok (.iload_n 1, 1) := by decide +kernel
theorem d_M_check_114 : decode (mC m_M_check) 114 = .ok (.iconst 0, 1) := by decide +kernel
theorem d_M_check_115 : decode (mC m_M_check) 115 = .ok (.iastore, 1) := by decide +kernel
theorem d_M_check_116 : decode (mC m_M_check) 116 = .ok (.iconst 0, 1) := by decide +kernel
theorem d_M_check_117 : decode (mC m_M_check) 117 = .ok (.istore 5, 2) := by decide +kernel
theorem d_M_check_119 : decode (mC m_M_check) 119 = .ok (.iload 5, 2) := by decide +kernel
theorem d_M_check_121 : decode (mC m_M_check) 121 = .ok (.bipush (20), 2) := by decide +kernel
theorem d_M_check_123 : decode (mC m_M_check) 123 = .ok (.if_icmp .ge (35), 3) := by decide +kernel
theorem d_M_check_126 : decode (mC m_M_check) 126 = .ok (.aload_n 0, 1) := by decide +kernel
theorem d_M_check_127 : decode (mC m_M_check) 127 = .ok (.getfield 186, 3) := by decide +kernel
theorem d_M_check_130 : decode (mC m_M_check) 130 = .ok (.iload_n 1, 1) := by decide +kernel
theorem d_M_check_131 : decode (mC m_M_check) 131 = .ok (.dup2, 1) := by decide +kernel
theorem d_M_check_132 : decode (mC m_M_check) 132 = .ok (.iaload, 1) := by decide +kernel
theorem d_M_check_133 : decode (mC m_M_check) 133 = .ok (.aload_n 0, 1) := by decide +kernel
theorem d_M_check_134 : decode (mC m_M_check) 134 = .ok (.iload 5, 2) := by decide +kernel
theorem d_M_check_136 : decode (mC m_M_check) 136 = .ok (.invokevirtual 377, 3) := by decide +kernel
theorem d_M_check_139 : decode (mC m_M_check) 139 = .ok (.ifCond .eq (10), 3) := by decide +kernel
theorem d_M_check_142 : decode (mC m_M_check) 142 = .ok (.iconst 1, 1) := by decide +kernel
theorem d_M_check_143 : decode (mC m_M_check) 143 = .ok (.iload 5, 2) := by decide +kernel
theorem d_M_check_145 : decode (mC m_M_check) 145 = .ok (.ishl, 1) := by decide +kernel
theorem d_M_check_146 : decode (mC m_M_check) 146 = .ok (.goto (4), 3) := by decide +kernel
theorem d_M_check_149 : decode (mC m_M_check) 149 = .ok (.iconst 0, 1) := by decide +kernel
theorem d_M_check_150 : decode (mC m_M_check) 150 = .ok (.ior, 1) := by decide +kernel
theorem d_M_check_151 : decode (mC m_M_check) 151 = .ok (.iastore, 1) := by decide +kernel
theorem d_M_check_152 : decode (mC m_M_check) 152 = .ok (.iinc 5 (1), 3) := by decide +kernel
theorem d_M_check_155 : decode (mC m_M_check) 155 = .ok (.goto (-36), 3) := by decide +kernel
theorem d_M_check_158 : decode (mC m_M_check) 158 = .ok (.aload_n 0, 1) := by decide +kernel
theorem d_M_check_159 : decode (mC m_M_check) 159 = .ok (.getfield 189, 3) := by decide +kernel
theorem d_M_check_162 : decode (mC m_M_check) 162 = .ok (.iload_n 1, 1) := by decide +kernel
theorem d_M_check_163 : decode (mC m_M_check) 163 = .ok (.aload_n 0, 1) := by decide +kernel
theorem d_M_check_164 : decode (mC m_M_check) 164 = .ok (.getfield 247, 3) := by decide +kernel
theorem d_M_check_167 : decode (mC m_M_check) 167 = .ok (.iastore, 1) := by decide +kernel
theorem d_M_check_168 : decode (mC m_M_check) 168 = .ok (.aload_n 0, 1) := by decide +kernel
theorem d_M_check_169 : decode (mC m_M_check) 169 = .ok (.getfield 186, 3) := by decide +kernel
theorem d_M_check_172 : decode (mC m_M_check) 172 = .ok (.iload_n 1, 1) := by decide +kernel
theorem d_M_check_173 : decode (mC m_M_check) 173 = .ok (.iaload, 1) := by decide +kernel
theorem d_M_check_174 : decode (mC m_M_check) 174 = .ok (.aload_n 0, 1) := by decide +kernel
theorem d_M_check_175 : decode (mC m_M_check) 175 = .ok (.getfield 164, 3) := by decide +kernel
theorem d_M_check_178 : decode (mC m_M_check) 178 = .ok (.iload_n 2, 1) := by decide +kernel
theorem d_M_check_179 : decode (mC m_M_check) 179 = .ok (.iaload, 1) := by decide +kernel
theorem d_M_check_180 : decode (mC m_M_check) 180 = .ok (.ishr, 1) := by decide +kernel
theorem d_M_check_181 : decode (mC m_M_check) 181 = .ok (.iconst 1, 1) := by decide +kernel
theorem d_M_check_182 : decode (mC m_M_check) 182 = .ok (.iand, 1) := by decide +kernel
theorem d_M_check_183 : decode (mC m_M_check) 183 = .ok (.ifCond .ne (5), 3) := by decide +kernel
theorem d_M_check_186 : decode (mC m_M_check) 186 = .ok (.iconst 3, 1) := by decide +kernel
theorem d_M_check_187 : decode (mC m_M_check) 187 = .ok (.ireturn, 1) := by decide +kernel
theorem d_M_check_188 : decode (mC m_M_check) 188 = .ok (.aload_n 0, 1) := by decide +kernel
theorem d_M_check_189 : decode (mC m_M_check) 189 = .ok (.getfield 192, 3) := by decide +kernel
theorem d_M_check_192 : decode (mC m_M_check) 192 = .ok (.bipush (60), 2) := by decide +kernel
theorem d_M_check_194 : decode (mC m_M_check) 194 = .ok (.iload_n 1, 1) := by decide +kernel
theorem d_M_check_195 : decode (mC m_M_check) 195 = .ok (.imul, 1) := by decide +kernel
theorem d_M_check_196 : decode (mC m_M_check) 196 = .ok (.aload_n 0, 1) := by decide +kernel
theorem d_M_check_197 : decode (mC m_M_check) 197 = .ok (.getfield 161, 3) := by decide +kernel
theorem d_M_check_200 : decode (mC m_M_check) 200 = .ok (.iload_n 2, 1) := by decide +kernel
theorem d_M_check_201 : decode (mC m_M_check) 201 = .ok (.iaload, 1) := by decide +kernel
theorem d_M_check_202 : decode (mC m_M_check) 202 = .ok (.iadd, 1) := by decide +kernel
theorem d_M_check_203 : decode (mC m_M_check) 203 = .ok (.baload, 1) := by decide +kernel
theorem d_M_check_204 : decode (mC m_M_check) 204 = .ok (.ifCond .eq (5), 3) := by decide +kernel
theorem d_M_check_207 : decode (mC m_M_check) 207 = .ok (.iconst 4, 1) := by decide +kernel
theorem d_M_check_208 : decode (mC m_M_check) 208 = .ok (.ireturn, 1) := by decide +kernel
theorem d_M_check_209 : decode (mC m_M_check) 209 = .ok (.aload_n 0, 1) := by decide +kernel
theorem d_M_check_210 : decode (mC m_M_check) 210 = .ok (.getfield 155, 3) := by decide +kernel
theorem d_M_check_213 : decode (mC m_M_check) 213 = .ok (.iload_n 2, 1) := by decide +kernel
theorem d_M_check_214 : decode (mC m_M_check) 214 = .ok (.iaload, 1) := by decide +kernel
theorem d_M_check_215 : decode (mC m_M_check) 215 = .ok (.iload_n 3, 1) := by decide +kernel
theorem d_M_check_216 : decode (mC m_M_check) 216 = .ok (.ishr, 1) := by decide +kernel
theorem d_M_check_217 : decode (mC m_M_check) 217 = .ok (.iconst 1, 1) := by decide +kernel
theorem d_M_check_218 : decode (mC m_M_check) 218 = .ok (.iand, 1) := by decide +kernel
theorem d_M_check_219 : decode (mC m_M_check) 219 = .ok (.ifCond .ne (7), 3) := by decide +kernel
theorem d_M_check_222 : decode (mC m_M_check) 222 = .ok (.iconst 5, 1) := by decide +kernel
theorem d_M_check_223 : decode (mC m_M_check) 223 = .ok (.goto (4), 3) := by decide +kernel
theorem d_M_check_226 : decode (mC m_M_check) 226 = .ok (.iconst 0, 1) := by decide +kernel
theorem d_M_check_227 : decode (mC m_M_check) 227 = .ok (.ireturn, 1) := by decide +kernel
theorem d_K_lag_0 : decode (mC m_K_lag) 0 = .ok (.aload_n 0, 1) := by decide +kernel
theorem d_K_lag_1 : decode (mC m_K_lag) 1 = .ok (.iload_n 1, 1) := by decide +kernel
theorem d_K_lag_2 : decode (mC m_K_lag) 2 = .ok (.invokevirtual 309, 3) := by decide +kernel
theorem d_K_lag_5 : decode (mC m_K_lag) 5 = .ok (.astore_n 2, 1) := by decide +kernel
theorem d_K_lag_6 : decode (mC m_K_lag) 6 = .ok (.aload_n 2, 1) := by decide +kernel
theorem d_K_lag_7 : decode (mC m_K_lag) 7 = .ok (.getfield 321, 3) := by decide +kernel
theorem d_K_lag_10 : decode (mC m_K_lag) 10 = .ok (.getfield 258, 3) := by decide +kernel
theorem d_K_lag_13 : decode (mC m_K_lag) 13 = .ok (.ifCond .ne (20), 3) := by decide +kernel
theorem d_K_lag_16 : decode (mC m_K_lag) 16 = .ok (.aload_n 2, 1) := by decide +kernel
theorem d_K_lag_17 : decode (mC m_K_lag) 17 = .ok (.getfield 327, 3) := by decide +kernel
theorem d_K_lag_20 : decode (mC m_K_lag) 20 = .ok (.aload_n 2, 1) := by decide +kernel
theorem d_K_lag_21 : decode (mC m_K_lag) 21 = .ok (.getfield 321, 3) := by decide +kernel
theorem d_K_lag_24 : decode (mC m_K_lag) 24 = .ok (.getfield 377, 3) := by decide +kernel
theorem d_K_lag_27 : decode (mC m_K_lag) 27 = .ok (.invokestatic 358, 3) := by decide +kernel
theorem d_K_lag_30 : decode (mC m_K_lag) 30 = .ok (.ifCond .eq (5), 3) := by decide +kernel
theorem d_K_lag_33 : decode (mC m_K_lag) 33 = .ok (.iconst 0, 1) := by decide +kernel
theorem d_K_lag_34 : decode (mC m_K_lag) 34 = .ok (.ireturn, 1) := by decide +kernel
theorem d_K_lag_35 : decode (mC m_K_lag) 35 = .ok (.iconst 0, 1) := by decide +kernel
theorem d_K_lag_36 : decode (mC m_K_lag) 36 = .ok (.aload_n 2, 1) := by decide +kernel
theorem d_K_lag_37 : decode (mC m_K_lag) 37 = .ok (.getfield 318, 3) := by decide +kernel
theorem d_K_lag_40 : decode (mC m_K_lag) 40 = .ok (.aload_n 0, 1) := by decide +kernel
theorem d_K_lag_41 : decode (mC m_K_lag) 41 = .ok (.getfield 92, 3) := by decide +kernel
theorem d_K_lag_44 : decode (mC m_K_lag) 44 = .ok (.isub, 1) := by decide +kernel
theorem d_K_lag_45 : decode (mC m_K_lag) 45 = .ok (.iconst 1, 1) := by decide +kernel
theorem d_K_lag_46 : decode (mC m_K_lag) 46 = .ok (.iadd, 1) := by decide +kernel
theorem d_K_lag_47 : decode (mC m_K_lag) 47 = .ok (.invokestatic 380, 3) := by decide +kernel
theorem d_K_lag_50 : decode (mC m_K_lag) 50 = .ok (.ireturn, 1) := by decide +kernel
theorem d_W_lag_0 : decode (mC m_W_lag) 0 = .ok (.aload_n 2, 1) := by decide +kernel
theorem d_W_lag_1 : decode (mC m_W_lag) 1 = .ok (.iconst 0, 1) := by decide +kernel
theorem d_W_lag_2 : decode (mC m_W_lag) 2 = .ok (.aload_n 0, 1) := by decide +kernel
theorem d_W_lag_3 : decode (mC m_W_lag) 3 = .ok (.iload_n 1, 1) := by decide +kernel
theorem d_W_lag_4 : decode (mC m_W_lag) 4 = .ok (.invokevirtual 133, 3) := by decide +kernel
theorem d_W_lag_7 : decode (mC m_W_lag) 7 = .ok (.i2l, 1) := by decide +kernel
theorem d_W_lag_8 : decode (mC m_W_lag) 8 = .ok (.lastore, 1) := by decide +kernel
theorem d_W_lag_9 : decode (mC m_W_lag) 9 = .ok (.goto (6), 3) := by decide +kernel
theorem d_W_lag_12 : decode (mC m_W_lag) 12 = .ok (.astore_n 3, 1) := by decide +kernel
theorem d_W_lag_13 : decode (mC m_W_lag) 13 = .ok (.iconst 1, 1) := by decide +kernel
theorem d_W_lag_14 : decode (mC m_W_lag) 14 = .ok (.ireturn, 1) := by decide +kernel
theorem d_W_lag_15 : decode (mC m_W_lag) 15 = .ok (.iconst 0, 1) := by decide +kernel
theorem d_W_lag_16 : decode (mC m_W_lag) 16 = .ok (.ireturn, 1) := by decide +kernel
theorem d_M_lag_0 : decode (mC m_M_lag) 0 = .ok (.aload_n 0, 1) := by decide +kernel
theorem d_M_lag_1 : decode (mC m_M_lag) 1 = .ok (.aload_n 0, 1) := by decide +kernel
theorem d_M_lag_2 : decode (mC m_M_lag) 2 = .ok (.iload_n 1, 1) := by decide +kernel
theorem d_M_lag_3 : decode (mC m_M_lag) 3 = .ok (.invokevirtual 374, 3) := by decide +kernel
theorem d_M_lag_6 : decode (mC m_M_lag) 6 = .ok (.invokevirtual 251, 3) := by decide +kernel
theorem d_M_lag_9 : decode (mC m_M_lag) 9 = .ok (.ifCond .ne (5), 3) := by decide +kernel
theorem d_M_lag_12 : decode (mC m_M_lag) 12 = .ok (.iconst 0, 1) := by decide +kernel
theorem d_M_lag_13 : decode (mC m_M_lag) 13 = .ok (.ireturn, 1) := by decide +kernel
theorem d_M_lag_14 : decode (mC m_M_lag) 14 = .ok (.aload_n 0, 1) := by decide +kernel
theorem d_M_lag_15 : decode (mC m_M_lag) 15 = .ok (.getfield 146, 3) := by decide +kernel
theorem d_M_lag_18 : decode (mC m_M_lag) 18 = .ok (.aload_n 0, 1) := by decide +kernel
theorem d_M_lag_19 : decode (mC m_M_lag) 19 = .ok (.getfield 161, 3) := by decide +kernel
theorem d_M_lag_22 : decode (mC m_M_lag) 22 = .ok (.iload_n 1, 1) := by decide +kernel
theorem d_M_lag_23 : decode (mC m_M_lag) 23 = .ok (.iaload, 1) := by decide +kernel
theorem d_M_lag_24 : decode (mC m_M_lag) 24 = .ok (.baload, 1) := by decide +kernel
theorem d_M_lag_25 : decode (mC m_M_lag) 25 = .ok (.ifCond .ne (44), 3) := by decide +kernel
theorem d_M_lag_28 : decode (mC m_M_lag) 28 = .ok (.aload_n 0, 1) := by decide +kernel
theorem d_M_lag_29 : decode (mC m_M_lag) 29 = .ok (.getfield 192, 3) := by decide +kernel
theorem d_M_lag_32 : decode (mC m_M_lag) 32 = .ok (.bipush (60), 2) := by decide +kernel
theorem d_M_lag_34 : decode (mC m_M_lag) 34 = .ok (.aload_n 0, 1) := by decide +kernel
theorem d_M_lag_35 : decode (mC m_M_lag) 35 = .ok (.getfield 152, 3) := by decide +kernel
theorem d_M_lag_38 : decode (mC m_M_lag) 38 = .ok (.iload_n 1, 1) := by decide +kernel
theorem d_M_lag_39 : decode (mC m_M_lag) 39 = .ok (.iaload, 1) := by decide +kernel
theorem d_M_lag_40 : decode (mC m_M_lag) 40 = .ok (.imul, 1) := by decide +kernel
theorem d_M_lag_41 : decode (mC m_M_lag) 41 = .ok (.aload_n 0, 1) := by decide +kernel
theorem d_M_lag_42 : decode (mC m_M_lag) 42 = .ok (.getfield 161, 3) := by decide +kernel
theorem d_M_lag_45 : decode (mC m_M_lag) 45 = .ok (.iload_n 1, 1) := by decide +kernel
theorem d_M_lag_46 : decode (mC m_M_lag) 46 = .ok (.iaload, 1) := by decide +kernel
theorem d_M_lag_47 : decode (mC m_M_lag) 47 = .ok (.iadd, 1) := by decide +kernel
theorem d_M_lag_48 : decode (mC m_M_lag) 48 = .ok (.baload, 1) := by decide +kernel
theorem d_M_lag_49 : decode (mC m_M_lag) 49 = .ok (.ifCond .ne (20), 3) := by decide +kernel
theorem d_M_lag_52 : decode (mC m_M_lag) 52 = .ok (.aload_n 0, 1) := by decide +kernel
theorem d_M_lag_53 : decode (mC m_M_lag) 53 = .ok (.getfield 247, 3) := by decide +kernel
theorem d_M_lag_56 : decode (mC m_M_lag) 56 = .ok (.aload_n 0, 1) := by decide +kernel
theorem d_M_lag_57 : decode (mC m_M_lag) 57 = .ok (.getfield 167, 3) := by decide +kernel
theorem d_M_lag_60 : decode (mC m_M_lag) 60 = .ok (.iload_n 1, 1) := by decide +kernel
theorem d_M_lag_61 : decode (mC m_M_lag) 61 = .ok (.iaload, 1) := by decide +kernel
theorem d_M_lag_62 : decode (mC m_M_lag) 62 = .ok (.if_icmp .gt (7), 3) := by decide +kernel
theorem d_M_lag_65 : decode (mC m_M_lag) 65 = .ok (.iconst 1, 1) := by decide +kernel
theorem d_M_lag_66 : decode (mC m_M_lag) 66 = .ok (.goto (4), 3) := by decide +kernel
theorem d_M_lag_69 : decode (mC m_M_lag) 69 = .ok (.iconst 0, 1) := by decide +kernel
theorem d_M_lag_70 : decode (mC m_M_lag) 70 = .ok (.istore_n 2, 1) := by decide +kernel
theorem d_M_lag_71 : decode (mC m_M_lag) 71 = .ok (.iload_n 2, 1) := by decide +kernel
theorem d_M_lag_72 : decode (mC m_M_lag) 72 = .ok (.ifCond .eq (19), 3) := by decide +kernel
theorem d_M_lag_75 : decode (mC m_M_lag) 75 = .ok (.aload_n 0, 1) := by decide +kernel
theorem d_M_lag_76 : decode (mC m_M_lag) 76 = .ok (.getfield 167, 3) := by decide +kernel
theorem d_M_lag_79 : decode (mC m_M_lag) 79 = .ok (.iload_n 1, 1) := by decide +kernel
theorem d_M_lag_80 : decode (mC m_M_lag) 80 = .ok (.iaload, 1) := by decide +kernel
theorem d_M_lag_81 : decode (mC m_M_lag) 81 = .ok (.aload_n 0, 1) := by decide +kernel
theorem d_M_lag_82 : decode (mC m_M_lag) 82 = .ok (.getfield 247, 3) := by decide +kernel
theorem d_M_lag_85 : decode (mC m_M_lag) 85 = .ok (.isub, 1) := by decide +kernel
theorem d_M_lag_86 : decode (mC m_M_lag) 86 = .ok (.iconst 1, 1) := by decide +kernel
theorem d_M_lag_87 : decode (mC m_M_lag) 87 = .ok (.iadd, 1) := by decide +kernel
theorem d_M_lag_88 : decode (mC m_M_lag) 88 = .ok (.goto (4), 3) := by decide +kernel
theorem d_M_lag_91 : decode (mC m_M_lag) 91 = .ok (.iconst 0, 1) := by decide +kernel
theorem d_M_lag_92 : decode (mC m_M_lag) 92 = .ok (.ireturn, 1) := by decide +kernel
theorem d_K_hasOpenRecovery_0 : decode (mC m_K_hasOpenRecovery) 0 = .ok (.iconst 0, 1) := by decide +kernel
theorem d_K_hasOpenRecovery_1 : decode (mC m_K_hasOpenRecovery) 1 = .ok (.istore_n 2, 1) := by decide +kernel
theorem d_K_hasOpenRecovery_2 : decode (mC m_K_hasOpenRecovery) 2 = .ok (.iload_n 2, 1) := by decide +kernel
theorem d_K_hasOpenRecovery_3 : decode (mC m_K_hasOpenRecovery) 3 = .ok (.aload_n 0, 1) := by decide +kernel
theorem d_K_hasOpenRecovery_4 : decode (mC m_K_hasOpenRecovery) 4 = .ok (.getfield 74, 3) := by decide +kernel
theorem d_K_hasOpenRecovery_7 : decode (mC m_K_hasOpenRecovery) 7 = .ok (.invokevirtual 134, 3) := by decide +kernel
theorem d_K_hasOpenRecovery_10 : decode (mC m_K_hasOpenRecovery) 10 = .ok (.if_icmp .ge (38), 3) := by decide +kernel
theorem d_K_hasOpenRecovery_13 : decode (mC m_K_hasOpenRecovery) 13 = .ok (.aload_n 0, 1) := by decide +kernel
theorem d_K_hasOpenRecovery_14 : decode (mC m_K_hasOpenRecovery) 14 = .ok (.getfield 74, 3) := by decide +kernel
theorem d_K_hasOpenRecovery_17 : decode (mC m_K_hasOpenRecovery) 17 = .ok (.iload_n 2, 1) := by decide +kernel
theorem d_K_hasOpenRecovery_18 : decode (mC m_K_hasOpenRecovery) 18 = .ok (.invokevirtual 152, 3) := by decide +kernel
theorem d_K_hasOpenRecovery_21 : decode (mC m_K_hasOpenRecovery) 21 = .ok (.checkcast 390, 3) := by decide +kernel
theorem d_K_hasOpenRecovery_24 : decode (mC m_K_hasOpenRecovery) 24 = .ok (.astore_n 3, 1) := by decide +kernel
theorem d_K_hasOpenRecovery_25 : decode (mC m_K_hasOpenRecovery) 25 = .ok (.aload_n 3, 1) := by decide +kernel
theorem d_K_hasOpenRecovery_26 : decode (mC m_K_hasOpenRecovery) 26 = .ok (.getfield 399, 3) := by decide +kernel
theorem d_K_hasOpenRecovery_29 : decode (mC m_K_hasOpenRecovery) 29 = .ok (.ifCond .eq (13), 3) := by decide +kernel
theorem d_K_hasOpenRecovery_32 : decode (mC m_K_hasOpenRecovery) 32 = .ok (.aload_n 3, 1) := by decide +kernel
theorem d_K_hasOpenRecovery_33 : decode (mC m_K_hasOpenRecovery) 33 = .ok (.getfield 402, 3) := by decide +kernel
theorem d_K_hasOpenRecovery_36 : decode (mC m_K_hasOpenRecovery) 36 = .ok (.aload_n 1, 1) := by decide +kernel
theorem d_K_hasOpenRecovery_37 : decode (mC m_K_hasOpenRecovery) 37 = .ok (.if_acmp .ne (5), 3) := by decide +kernel
theorem d_K_hasOpenRecovery_40 : decode (mC m_K_hasOpenRecovery) 40 = .ok (.iconst 1, 1) := by decide +kernel
theorem d_K_hasOpenRecovery_41 : decode (mC m_K_hasOpenRecovery) 41 = .ok (.ireturn, 1) := by decide +kernel
theorem d_K_hasOpenRecovery_42 : decode (mC m_K_hasOpenRecovery) 42 = .ok (.iinc 2 (1), 3) := by decide +kernel
theorem d_K_hasOpenRecovery_45 : decode (mC m_K_hasOpenRecovery) 45 = .ok (.goto (-43), 3) := by decide +kernel
theorem d_K_hasOpenRecovery_48 : decode (mC m_K_hasOpenRecovery) 48 = .ok (.iconst 0, 1) := by decide +kernel
theorem d_K_hasOpenRecovery_49 : decode (mC m_K_hasOpenRecovery) 49 = .ok (.ireturn, 1) := by decide +kernel
theorem d_Recovery_init_0 : decode (mC m_Recovery_init) 0 = .ok (.aload_n 0, 1) := by decide +kernel
theorem d_Recovery_init_1 : decode (mC m_Recovery_init) 1 = .ok (.invokespecial 1, 3) := by decide +kernel
theorem d_Recovery_init_4 : decode (mC m_Recovery_init) 4 = .ok (.aload_n 0, 1) := by decide +kernel
theorem d_Recovery_init_5 : decode (mC m_Recovery_init) 5 = .ok (.iconst 1, 1) := by decide +kernel
theorem d_Recovery_init_6 : decode (mC m_Recovery_init) 6 = .ok (.putfield 7, 3) := by decide +kernel
theorem d_Recovery_init_9 : decode (mC m_Recovery_init) 9 = .ok (.aload_n 0, 1) := by decide +kernel
theorem d_Recovery_init_10 : decode (mC m_Recovery_init) 10 = .ok (.aload_n 1, 1) := by decide +kernel
theorem d_Recovery_init_11 : decode (mC m_Recovery_init) 11 = .ok (.putfield 13, 3) := by decide +kernel
theorem d_Recovery_init_14 : decode (mC m_Recovery_init) 14 = .ok (.aload_n 0, 1) := by decide +kernel
theorem d_Recovery_init_15 : decode (mC m_Recovery_init) 15 = .ok (.iload_n 2, 1) := by decide +kernel
theorem d_Recovery_init_16 : decode (mC m_Recovery_init) 16 = .ok (.putfield 17, 3) := by decide +kernel
theorem d_Recovery_init_19 : decode (mC m_Recovery_init) 19 = .ok (.return_, 1) := by decide +kernel
theorem d_K_recover_0 : decode (mC m_K_recover) 0 = .ok (.aload_n 0, 1) := by decide +kernel
theorem d_K_recover_1 : decode (mC m_K_recover) 1 = .ok (.iload_n 1, 1) := by decide +kernel
theorem d_K_recover_2 : decode (mC m_K_recover) 2 = .ok (.invokevirtual 108, 3) := by decide +kernel
theorem d_K_recover_5 : decode (mC m_K_recover) 5 = .ok (.astore_n 2, 1) := by decide +kernel
theorem d_K_recover_6 : decode (mC m_K_recover) 6 = .ok (.aload_n 2, 1) := by decide +kernel
theorem d_K_recover_7 : decode (mC m_K_recover) 7 = .ok (.getfield 162, 3) := by decide +kernel
theorem d_K_recover_10 : decode (mC m_K_recover) 10 = .ok (.ifCond .ne (27), 3) := by decide +kernel
theorem d_K_recover_13 : decode (mC m_K_recover) 13 = .ok (.aload_n 0, 1) := by decide +kernel
theorem d_K_recover_14 : decode (mC m_K_recover) 14 = .ok (.aload_n 2, 1) := by decide +kernel
theorem d_K_recover_15 : decode (mC m_K_recover) 15 = .ok (.invokevirtual 386, 3) := by decide +kernel
theorem d_K_recover_18 : decode (mC m_K_recover) 18 = .ok (.ifCond .ne (19), 3) := by decide +kernel
theorem d_K_recover_21 : decode (mC m_K_recover) 21 = .ok (.aload_n 0, 1) := by decide +kernel
theorem d_K_recover_22 : decode (mC m_K_recover) 22 = .ok (.getfield 74, 3) := by decide +kernel
theorem d_K_recover_25 : decode (mC m_K_recover) 25 = .ok (.invokevirtual 134, 3) := by decide +kernel
theorem d_K_recover_28 : decode (mC m_K_recover) 28 = .ok (.bipush (20), 2) := by decide +kernel
theorem d_K_recover_30 : decode (mC m_K_recover) 30 = .ok (.if_icmp .ge (7), 3) := by decide +kernel
theorem d_K_recover_33 : decode (mC m_K_recover) 33 = .ok (.iconst 1, 1) := by decide +kernel
theorem d_K_recover_34 : decode (mC m_K_recover) 34 = .ok (.goto (4), 3) := by decide +kernel
theorem d_K_recover_37 : decode (mC m_K_recover) 37 = .ok (.iconst 0, 1) := by decide +kernel
theorem d_K_recover_38 : decode (mC m_K_recover) 38 = .ok (.invokestatic 96, 3) := by decide +kernel
theorem d_K_recover_41 : decode (mC m_K_recover) 41 = .ok (.aload_n 0, 1) := by decide +kernel
theorem d_K_recover_42 : decode (mC m_K_recover) 42 = .ok (.getfield 74, 3) := by decide +kernel
theorem d_K_recover_45 : decode (mC m_K_recover) 45 = .ok (.new 390, 3) := by decide +kernel
theorem d_K_recover_48 : decode (mC m_K_recover) 48 = .ok (.dup, 1) := by decide +kernel
theorem d_K_recover_49 : decode (mC m_K_recover) 49 = .ok (.aload_n 2, 1) := by decide +kernel
theorem d_K_recover_50 : decode (mC m_K_recover) 50 = .ok (.aload_n 0, 1) := by decide +kernel
theorem d_K_recover_51 : decode (mC m_K_recover) 51 = .ok (.getfield 92, 3) := by decide +kernel
theorem d_K_recover_54 : decode (mC m_K_recover) 54 = .ok (.invokespecial 392, 3) := by decide +kernel
theorem d_K_recover_57 : decode (mC m_K_recover) 57 = .ok (.invokevirtual 145, 3) := by decide +kernel
theorem d_K_recover_60 : decode (mC m_K_recover) 60 = .ok (.pop, 1) := by decide +kernel
theorem d_K_recover_61 : decode (mC m_K_recover) 61 = .ok (.aload_n 0, 1) := by decide +kernel
theorem d_K_recover_62 : decode (mC m_K_recover) 62 = .ok (.getfield 74, 3) := by decide +kernel
theorem d_K_recover_65 : decode (mC m_K_recover) 65 = .ok (.invokevirtual 134, 3) := by decide +kernel
theorem d_K_recover_68 : decode (mC m_K_recover) 68 = .ok (.iconst 1, 1) := by decide +kernel
theorem d_K_recover_69 : decode (mC m_K_recover) 69 = .ok (.isub, 1) := by decide +kernel
theorem d_K_recover_70 : decode (mC m_K_recover) 70 = .ok (.ireturn, 1) := by decide +kernel
theorem d_W_recover_0 : decode (mC m_W_recover) 0 = .ok (.aload_n 2, 1) := by decide +kernel
theorem d_W_recover_1 : decode (mC m_W_recover) 1 = .ok (.iconst 0, 1) := by decide +kernel
theorem d_W_recover_2 : decode (mC m_W_recover) 2 = .ok (.aload_n 0, 1) := by decide +kernel
theorem d_W_recover_3 : decode (mC m_W_recover) 3 = .ok (.iload_n 1, 1) := by decide +kernel
theorem d_W_recover_4 : decode (mC m_W_recover) 4 = .ok (.invokevirtual 136, 3) := by decide +kernel
theorem d_W_recover_7 : decode (mC m_W_recover) 7 = .ok (.i2l, 1) := by decide +kernel
theorem d_W_recover_8 : decode (mC m_W_recover) 8 = .ok (.lastore, 1) := by decide +kernel
theorem d_W_recover_9 : decode (mC m_W_recover) 9 = .ok (.goto (9), 3) := by decide +kernel
theorem d_W_recover_12 : decode (mC m_W_recover) 12 = .ok (.astore_n 3, 1) := by decide +kernel
theorem d_W_recover_13 : decode (mC m_W_recover) 13 = .ok (.iconst 1, 1) := by decide +kernel
theorem d_W_recover_14 : decode (mC m_W_recover) 14 = .ok (.ireturn, 1) := by decide +kernel
theorem d_W_recover_15 : decode (mC m_W_recover) 15 = .ok (.astore_n 3, 1) := by decide +kernel
theorem d_W_recover_16 : decode (mC m_W_recover) 16 = .ok (.iconst 2, 1) := by decide +kernel
theorem d_W_recover_17 : decode (mC m_W_recover) 17 = .ok (.ireturn, 1) := by decide +kernel
theorem d_W_recover_18 : decode (mC m_W_recover) 18 = .ok (.iconst 0, 1) := by decide +kernel
theorem d_W_recover_19 : decode (mC m_W_recover) 19 = .ok (.ireturn, 1) := by decide +kernel
theorem d_M_recover_0 : decode (mC m_M_recover) 0 = .ok (.iload_n 1, 1) := by decide +kernel
theorem d_M_recover_1 : decode (mC m_M_recover) 1 = .ok (.invokestatic 284, 3) := by decide +kernel
theorem d_M_recover_4 : decode (mC m_M_recover) 4 = .ok (.istore_n 2, 1) := by decide +kernel
theorem d_M_recover_5 : decode (mC m_M_recover) 5 = .ok (.iload_n 2, 1) := by decide +kernel
theorem d_M_recover_6 : decode (mC m_M_recover) 6 = .ok (.ifCond .eq (25), 3) := by decide +kernel
theorem d_M_recover_9 : decode (mC m_M_recover) 9 = .ok (.aload_n 0, 1) := by decide +kernel
theorem d_M_recover_10 : decode (mC m_M_recover) 10 = .ok (.getfield 29, 3) := by decide +kernel
theorem d_M_recover_13 : decode (mC m_M_recover) 13 = .ok (.iload_n 1, 1) := by decide +kernel
theorem d_M_recover_14 : decode (mC m_M_recover) 14 = .ok (.baload, 1) := by decide +kernel
theorem d_M_recover_15 : decode (mC m_M_recover) 15 = .ok (.ifCond .ne (16), 3) := by decide +kernel
theorem d_M_recover_18 : decode (mC m_M_recover) 18 = .ok (.aload_n 0, 1) := by decide +kernel
theorem d_M_recover_19 : decode (mC m_M_recover) 19 = .ok (.getfield 380, 3) := by decide +kernel
theorem d_M_recover_22 : decode (mC m_M_recover) 22 = .ok (.bipush (20), 2) := by decide +kernel
theorem d_M_recover_24 : decode (mC m_M_recover) 24 = .ok (.if_icmp .ge (7), 3) := by decide +kernel
theorem d_M_recover_27 : decode (mC m_M_recover) 27 = .ok (.iconst 1, 1) := by decide +kernel
theorem d_M_recover_28 : decode (mC m_M_recover) 28 = .ok (.goto (4), 3) := by decide +kernel
theorem d_M_recover_31 : decode (mC m_M_recover) 31 = .ok (.iconst 0, 1) := by decide +kernel
theorem d_M_recover_32 : decode (mC m_M_recover) 32 = .ok (.istore_n 3, 1) := by decide +kernel
theorem d_M_recover_33 : decode (mC m_M_recover) 33 = .ok (.iconst 0, 1) := by decide +kernel
theorem d_M_recover_34 : decode (mC m_M_recover) 34 = .ok (.istore 4, 2) := by decide +kernel
theorem d_M_recover_36 : decode (mC m_M_recover) 36 = .ok (.iload 4, 2) := by decide +kernel
theorem d_M_recover_38 : decode (mC m_M_recover) 38 = .ok (.aload_n 0, 1) := by decide +kernel
theorem d_M_recover_39 : decode (mC m_M_recover) 39 = .ok (.getfield 380, 3) := by decide +kernel
theorem d_M_recover_42 : decode (mC m_M_recover) 42 = .ok (.if_icmp .ge (40), 3) := by decide +kernel
theorem d_M_recover_45 : decode (mC m_M_recover) 45 = .ok (.iload_n 3, 1) := by decide +kernel
theorem d_M_recover_46 : decode (mC m_M_recover) 46 = .ok (.ifCond .eq (28), 3) := by decide +kernel
theorem d_M_recover_49 : decode (mC m_M_recover) 49 = .ok (.aload_n 0, 1) := by decide +kernel
theorem d_M_recover_50 : decode (mC m_M_recover) 50 = .ok (.getfield 201, 3) := by decide +kernel
theorem d_M_recover_53 : decode (mC m_M_recover) 53 = .ok (.iload 4, 2) := by decide +kernel
theorem d_M_recover_55 : decode (mC m_M_recover) 55 = .ok (.baload, 1) := by decide +kernel
theorem d_M_recover_56 : decode (mC m_M_recover) 56 = .ok (.ifCond .eq (14), 3) := by decide +kernel
theorem d_M_recover_59 : decode (mC m_M_recover) 59 = .ok (.aload_n 0, 1) := by decide +kernel
theorem d_M_recover_60 : decode (mC m_M_recover) 60 = .ok (.getfield 195, 3) := by decide +kernel
theorem d_M_recover_63 : decode (mC m_M_recover) 63 = .ok (.iload 4, 2) := by decide +kernel
theorem d_M_recover_65 : decode (mC m_M_recover) 65 = .ok (.iaload, 1) := by decide +kernel
theorem d_M_recover_66 : decode (mC m_M_recover) 66 = .ok (.iload_n 1, 1) := by decide +kernel
theorem d_M_recover_67 : decode (mC m_M_recover) 67 = .ok (.if_icmp .eq (7), 3) := by decide +kernel
theorem d_M_recover_70 : decode (mC m_M_recover) 70 = .ok (.iconst 1, 1) := by decide +kernel
theorem d_M_recover_71 : decode (mC m_M_recover) 71 = .ok (.goto (4), 3) := by decide +kernel
theorem d_M_recover_74 : decode (mC m_M_recover) 74 = .ok (.iconst 0, 1) := by decide +kernel
theorem d_M_recover_75 : decode (mC m_M_recover) 75 = .ok (.istore_n 3, 1) := by decide +kernel
theorem d_M_recover_76 : decode (mC m_M_recover) 76 = .ok (.iinc 4 (1), 3) := by decide +kernel
theorem d_M_recover_79 : decode (mC m_M_recover) 79 = .ok (.goto (-43), 3) := by decide +kernel
theorem d_M_recover_82 : decode (mC m_M_recover) 82 = .ok (.aload_n 0, 1) := by decide +kernel
theorem d_M_recover_83 : decode (mC m_M_recover) 83 = .ok (.iload_n 2, 1) := by decide +kernel
theorem d_M_recover_84 : decode (mC m_M_recover) 84 = .ok (.iload_n 3, 1) := by decide +kernel
theorem d_M_recover_85 : decode (mC m_M_recover) 85 = .ok (.invokevirtual 274, 3) := by decide +kernel
theorem d_M_recover_88 : decode (mC m_M_recover) 88 = .ok (.ifCond .ne (5), 3) := by decide +kernel
theorem d_M_recover_91 : decode (mC m_M_recover) 91 = .ok (.iconst 0, 1) := by decide +kernel
theorem d_M_recover_92 : decode (mC m_M_recover) 92 = .ok (.ireturn, 1) := by decide +kernel
theorem d_M_recover_93 : decode (mC m_M_recover) 93 = .ok (.aload_n 0, 1) := by decide +kernel
theorem d_M_recover_94 : decode (mC m_M_recover) 94 = .ok (.getfield 195, 3) := by decide +kernel
theorem d_M_recover_97 : decode (mC m_M_recover) 97 = .ok (.aload_n 0, 1) := by decide +kernel
theorem d_M_recover_98 : decode (mC m_M_recover) 98 = .ok (.getfield 380, 3) := by decide +kernel
theorem d_M_recover_101 : decode (mC m_M_recover) 101 = .ok (.iload_n 1, 1) := by decide +kernel
theorem d_M_recover_102 : decode (mC m_M_recover) 102 = .ok (.iastore, 1) := by decide +kernel
theorem d_M_recover_103 : decode (mC m_M_recover) 103 = .ok (.aload_n 0, 1) := by decide +kernel
theorem d_M_recover_104 : decode (mC m_M_recover) 104 = .ok (.getfield 198, 3) := by decide +kernel
theorem d_M_recover_107 : decode (mC m_M_recover) 107 = .ok (.aload_n 0, 1) := by decide +kernel
theorem d_M_recover_108 : decode (mC m_M_recover) 108 = .ok (.getfield 380, 3) := by decide +kernel
theorem d_M_recover_111 : decode (mC m_M_recover) 111 = .ok (.aload_n 0, 1) := by decide +kernel
theorem d_M_recover_112 : decode (mC m_M_recover) 112 = .ok (.getfield 247, 3) := by decide +kernel
theorem d_M_recover_115 : decode (mC m_M_recover) 115 = .ok (.iastore, 1) := by decide +kernel
theorem d_M_recover_116 : decode (mC m_M_recover) 116 = .ok (.aload_n 0, 1) := by decide +kernel
theorem d_M_recover_117 : decode (mC m_M_recover) 117 = .ok (.getfield 201, 3) := by decide +kernel
theorem d_M_recover_120 : decode (mC m_M_recover) 120 = .ok (.aload_n 0, 1) := by decide +kernel
theorem d_M_recover_121 : decode (mC m_M_recover) 121 = .ok (.getfield 380, 3) := by decide +kernel
theorem d_M_recover_124 : decode (mC m_M_recover) 124 = .ok (.iconst 1, 1) := by decide +kernel
theorem d_M_recover_125 : decode (mC m_M_recover) 125 = .ok (.bastore, 1) := by decide +kernel
theorem d_M_recover_126 : decode (mC m_M_recover) 126 = .ok (.aload_n 0, 1) := by decide +kernel
theorem d_M_recover_127 : decode (mC m_M_recover) 127 = .ok (.dup, 1) := by decide +kernel
theorem d_M_recover_128 : decode (mC m_M_recover) 128 = .ok (.getfield 380, 3) := by decide +kernel
theorem d_M_recover_131 : decode (mC m_M_recover) 131 = .ok (.iconst 1, 1) := by decide +kernel
theorem d_M_recover_132 : decode (mC m_M_recover) 132 = .ok (.iadd, 1) := by decide +kernel
theorem d_M_recover_133 : decode (mC m_M_recover) 133 = .ok (.putfield 380, 3) := by decide +kernel
theorem d_M_recover_136 : decode (mC m_M_recover) 136 = .ok (.aload_n 0, 1) := by decide +kernel
theorem d_M_recover_137 : decode (mC m_M_recover) 137 = .ok (.getfield 380, 3) := by decide +kernel
theorem d_M_recover_140 : decode (mC m_M_recover) 140 = .ok (.iconst 1, 1) := by decide +kernel
theorem d_M_recover_141 : decode (mC m_M_recover) 141 = .ok (.isub, 1) := by decide +kernel
theorem d_M_recover_142 : decode (mC m_M_recover) 142 = .ok (.ireturn, 1) := by decide +kernel
theorem d_K_findRecovery_0 : decode (mC m_K_findRecovery) 0 = .ok (.iload_n 1, 1) := by decide +kernel
theorem d_K_findRecovery_1 : decode (mC m_K_findRecovery) 1 = .ok (.aload_n 0, 1) := by decide +kernel
theorem d_K_findRecovery_2 : decode (mC m_K_findRecovery) 2 = .ok (.getfield 74, 3) := by decide +kernel
theorem d_K_findRecovery_5 : decode (mC m_K_findRecovery) 5 = .ok (.invokevirtual 134, 3) := by decide +kernel
theorem d_K_findRecovery_8 : decode (mC m_K_findRecovery) 8 = .ok (.invokestatic 148, 3) := by decide +kernel
theorem d_K_findRecovery_11 : decode (mC m_K_findRecovery) 11 = .ok (.aload_n 0, 1) := by decide +kernel
theorem d_K_findRecovery_12 : decode (mC m_K_findRecovery) 12 = .ok (.getfield 74, 3) := by decide +kernel
theorem d_K_findRecovery_15 : decode (mC m_K_findRecovery) 15 = .ok (.iload_n 1, 1) := by decide +kernel
theorem d_K_findRecovery_16 : decode (mC m_K_findRecovery) 16 = .ok (.invokevirtual 152, 3) := by decide +kernel
theorem d_K_findRecovery_19 : decode (mC m_K_findRecovery) 19 = .ok (.checkcast 390, 3) := by decide +kernel
theorem d_K_findRecovery_22 : decode (mC m_K_findRecovery) 22 = .ok (.areturn, 1) := by decide +kernel
theorem d_K_vouch_0 : decode (mC m_K_vouch) 0 = .ok (.aload_n 0, 1) := by decide +kernel
theorem d_K_vouch_1 : decode (mC m_K_vouch) 1 = .ok (.iload_n 1, 1) := by decide +kernel
theorem d_K_vouch_2 : decode (mC m_K_vouch) 2 = .ok (.invokevirtual 395, 3) := by decide +kernel
theorem d_K_vouch_5 : decode (mC m_K_vouch) 5 = .ok (.astore_n 3, 1) := by decide +kernel
theorem d_K_vouch_6 : decode (mC m_K_vouch) 6 = .ok (.aload_n 0, 1) := by decide +kernel
theorem d_K_vouch_7 : decode (mC m_K_vouch) 7 = .ok (.iload_n 2, 1) := by decide +kernel
theorem d_K_vouch_8 : decode (mC m_K_vouch) 8 = .ok (.invokevirtual 202, 3) := by decide +kernel
theorem d_K_vouch_11 : decode (mC m_K_vouch) 11 = .ok (.astore 4, 2) := by decide +kernel
theorem d_K_vouch_13 : decode (mC m_K_vouch) 13 = .ok (.aload_n 3, 1) := by decide +kernel
theorem d_K_vouch_14 : decode (mC m_K_vouch) 14 = .ok (.getfield 399, 3) := by decide +kernel
theorem d_K_vouch_17 : decode (mC m_K_vouch) 17 = .ok (.ifCond .eq (35), 3) := by decide +kernel
theorem d_K_vouch_20 : decode (mC m_K_vouch) 20 = .ok (.aload 4, 2) := by decide +kernel
theorem d_K_vouch_22 : decode (mC m_K_vouch) 22 = .ok (.getfield 206, 3) := by decide +kernel
theorem d_K_vouch_25 : decode (mC m_K_vouch) 25 = .ok (.ifCond .eq (27), 3) := by decide +kernel
theorem d_K_vouch_28 : decode (mC m_K_vouch) 28 = .ok (.aload 4, 2) := by decide +kernel
theorem d_K_vouch_30 : decode (mC m_K_vouch) 30 = .ok (.getfield 218, 3) := by decide +kernel
theorem d_K_vouch_33 : decode (mC m_K_vouch) 33 = .ok (.ifnonnull (19), 3) := by decide +kernel
theorem d_K_vouch_36 : decode (mC m_K_vouch) 36 = .ok (.aload 4, 2) := by decide +kernel
theorem d_K_vouch_38 : decode (mC m_K_vouch) 38 = .ok (.getfield 225, 3) := by decide +kernel
theorem d_K_vouch_41 : decode (mC m_K_vouch) 41 = .ok (.aload_n 3, 1) := by decide +kernel
theorem d_K_vouch_42 : decode (mC m_K_vouch) 42 = .ok (.getfield 402, 3) := by decide +kernel
theorem d_K_vouch_45 : decode (mC m_K_vouch) 45 = .ok (.if_acmp .eq (7), 3) := by decide +kernel
theorem d_K_vouch_48 : decode (mC m_K_vouch) 48 = .ok (.iconst 1, 1) := by decide +kernel
theorem d_K_vouch_49 : decode (mC m_K_vouch) 49 = .ok (.goto (4), 3) := by decide +kernel
theorem d_K_vouch_52 : decode (mC m_K_vouch) 52 = .ok (.iconst 0, 1) := by decide +kernel
theorem d_K_vouch_53 : decode (mC m_K_vouch) 53 = .ok (.invokestatic 96, 3) := by decide +kernel
theorem d_K_vouch_56 : decode (mC m_K_vouch) 56 = .ok (.aload 4, 2) := by decide +kernel
theorem d_K_vouch_58 : decode (mC m_K_vouch) 58 = .ok (.aload_n 0, 1) := by decide +kernel
theorem d_K_vouch_59 : decode (mC m_K_vouch) 59 = .ok (.getfield 92, 3) := by decide +kernel
theorem d_K_vouch_62 : decode (mC m_K_vouch) 62 = .ok (.invokevirtual 215, 3) := by decide +kernel
theorem d_K_vouch_65 : decode (mC m_K_vouch) 65 = .ok (.iconst 3, 1) := by decide +kernel
theorem d_K_vouch_66 : decode (mC m_K_vouch) 66 = .ok (.if_icmp .lt (25), 3) := by decide +kernel
theorem d_K_vouch_69 : decode (mC m_K_vouch) 69 = .ok (.aload 4, 2) := by decide +kernel
theorem d_K_vouch_71 : decode (mC m_K_vouch) 71 = .ok (.getfield 225, 3) := by decide +kernel
theorem d_K_vouch_74 : decode (mC m_K_vouch) 74 = .ok (.getfield 403, 3) := by decide +kernel
theorem d_K_vouch_77 : decode (mC m_K_vouch) 77 = .ok (.aload_n 3, 1) := by decide +kernel
theorem d_K_vouch_78 : decode (mC m_K_vouch) 78 = .ok (.getfield 404, 3) := by decide +kernel
theorem d_K_vouch_81 : decode (mC m_K_vouch) 81 = .ok (.invokestatic 358, 3) := by decide +kernel
theorem d_K_vouch_84 : decode (mC m_K_vouch) 84 = .ok (.ifCond .ne (7), 3) := by decide +kernel
theorem d_K_vouch_87 : decode (mC m_K_vouch) 87 = .ok (.iconst 1, 1) := by decide +kernel
theorem d_K_vouch_88 : decode (mC m_K_vouch) 88 = .ok (.goto (4), 3) := by decide +kernel
theorem d_K_vouch_91 : decode (mC m_K_vouch) 91 = .ok (.iconst 0, 1) := by decide +kernel
theorem d_K_vouch_92 : decode (mC m_K_vouch) 92 = .ok (.invokestatic 96, 3) := by decide +kernel
theorem d_K_vouch_95 : decode (mC m_K_vouch) 95 = .ok (.aload_n 3, 1) := by decide +kernel
theorem d_K_vouch_96 : decode (mC m_K_vouch) 96 = .ok (.dup, 1) := by decide +kernel
theorem d_K_vouch_97 : decode (mC m_K_vouch) 97 = .ok (.getfield 404, 3) := by decide +kernel
theorem d_K_vouch_100 : decode (mC m_K_vouch) 100 = .ok (.iconst 1, 1) := by decide +kernel
theorem d_K_vouch_101 : decode (mC m_K_vouch) 101 = .ok (.aload 4, 2) := by decide +kernel
theorem d_K_vouch_103 : decode (mC m_K_vouch) 103 = .ok (.getfield 225, 3) := by decide +kernel
theorem d_K_vouch_106 : decode (mC m_K_vouch) 106 = .ok (.getfield 403, 3) := by decide +kernel
theorem d_K_vouch_109 : decode (mC m_K_vouch) 109 = .ok (.ishl, 1) := by decide +kernel
theorem d_K_vouch_110 : decode (mC m_K_vouch) 110 = .ok (.ior, 1) := by decide +kernel
theorem d_K_vouch_111 : decode (mC m_K_vouch) 111 = .ok (.putfield 404, 3) := by decide +kernel
theorem d_K_vouch_114 : decode (mC m_K_vouch) 114 = .ok (.aload_n 3, 1) := by decide +kernel
theorem d_K_vouch_115 : decode (mC m_K_vouch) 115 = .ok (.dup, 1) := by decide +kernel
theorem d_K_vouch_116 : decode (mC m_K_vouch) 116 = .ok (.getfield 407, 3) := by decide +kernel
theorem d_K_vouch_119 : decode (mC m_K_vouch) 119 = .ok (.aload 4, 2) := by decide +kernel
theorem d_K_vouch_121 : decode (mC m_K_vouch) 121 = .ok (.aload_n 0, 1) := by decide +kernel
theorem d_K_vouch_122 : decode (mC m_K_vouch) 122 = .ok (.getfield 92, 3) := by decide +kernel
theorem d_K_vouch_125 : decode (mC m_K_vouch) 125 = .ok (.invokevirtual 215, 3) := by decide +kernel
theorem d_K_vouch_128 : decode (mC m_K_vouch) 128 = .ok (.iadd, 1) := by decide +kernel
theorem d_K_vouch_129 : decode (mC m_K_vouch) 129 = .ok (.putfield 407, 3) := by decide +kernel
theorem d_K_vouch_132 : decode (mC m_K_vouch) 132 = .ok (.aload_n 3, 1) := by decide +kernel
theorem d_K_vouch_133 : decode (mC m_K_vouch) 133 = .ok (.getfield 407, 3) := by decide +kernel
theorem d_K_vouch_136 : decode (mC m_K_vouch) 136 = .ok (.ireturn, 1) := by decide +kernel
theorem d_W_vouch_0 : decode (mC m_W_vouch) 0 = .ok (.aload_n 3, 1) := by decide +kernel
theorem d_W_vouch_1 : decode (mC m_W_vouch) 1 = .ok (.iconst 0, 1) := by decide +kernel
theorem d_W_vouch_2 : decode (mC m_W_vouch) 2 = .ok (.aload_n 0, 1) := by decide +kernel
theorem d_W_vouch_3 : decode (mC m_W_vouch) 3 = .ok (.iload_n 1, 1) := by decide +kernel
theorem d_W_vouch_4 : decode (mC m_W_vouch) 4 = .ok (.iload_n 2, 1) := by decide +kernel
theorem d_W_vouch_5 : decode (mC m_W_vouch) 5 = .ok (.invokevirtual 139, 3) := by decide +kernel
theorem d_W_vouch_8 : decode (mC m_W_vouch) 8 = .ok (.i2l, 1) := by decide +kernel
theorem d_W_vouch_9 : decode (mC m_W_vouch) 9 = .ok (.lastore, 1) := by decide +kernel
theorem d_W_vouch_10 : decode (mC m_W_vouch) 10 = .ok (.goto (11), 3) := by decide +kernel
theorem d_W_vouch_13 : decode (mC m_W_vouch) 13 = .ok (.astore 4, 2) := by decide +kernel
theorem d_W_vouch_15 : decode (mC m_W_vouch) 15 = .ok (.iconst 1, 1) := by decide +kernel
theorem d_W_vouch_16 : decode (mC m_W_vouch) 16 = .ok (.ireturn, 1) := by decide +kernel
theorem d_W_vouch_17 : decode (mC m_W_vouch) 17 = .ok (.astore 4, 2) := by decide +kernel
theorem d_W_vouch_19 : decode (mC m_W_vouch) 19 = .ok (.iconst 2, 1) := by decide +kernel
theorem d_W_vouch_20 : decode (mC m_W_vouch) 20 = .ok (.ireturn, 1) := by decide +kernel
theorem d_W_vouch_21 : decode (mC m_W_vouch) 21 = .ok (.iconst 0, 1) := by decide +kernel
theorem d_W_vouch_22 : decode (mC m_W_vouch) 22 = .ok (.ireturn, 1) := by decide +kernel
theorem d_M_isRecovery_0 : decode (mC m_M_isRecovery) 0 = .ok (.iload_n 1, 1) := by decide +kernel
theorem d_M_isRecovery_1 : decode (mC m_M_isRecovery) 1 = .ok (.iconst 0, 1) := by decide +kernel
theorem d_M_isRecovery_2 : decode (mC m_M_isRecovery) 2 = .ok (.aload_n 0, 1) := by decide +kernel
theorem d_M_isRecovery_3 : decode (mC m_M_isRecovery) 3 = .ok (.getfield 380, 3) := by decide +kernel
theorem d_M_isRecovery_6 : decode (mC m_M_isRecovery) 6 = .ok (.iconst 1, 1) := by decide +kernel
theorem d_M_isRecovery_7 : decode (mC m_M_isRecovery) 7 = .ok (.isub, 1) := by decide +kernel
theorem d_M_isRecovery_8 : decode (mC m_M_isRecovery) 8 = .ok (.invokestatic 228, 3) := by decide +kernel
theorem d_M_isRecovery_11 : decode (mC m_M_isRecovery) 11 = .ok (.ireturn, 1) := by decide +kernel
theorem d_M_speaks_0 : decode (mC m_M_speaks) 0 = .ok (.aload_n 0, 1) := by decide +kernel
theorem d_M_speaks_1 : decode (mC m_M_speaks) 1 = .ok (.getfield 104, 3) := by decide +kernel
theorem d_M_speaks_4 : decode (mC m_M_speaks) 4 = .ok (.iload_n 1, 1) := by decide +kernel
theorem d_M_speaks_5 : decode (mC m_M_speaks) 5 = .ok (.baload, 1) := by decide +kernel
theorem d_M_speaks_6 : decode (mC m_M_speaks) 6 = .ok (.ifCond .eq (17), 3) := by decide +kernel
theorem d_M_speaks_9 : decode (mC m_M_speaks) 9 = .ok (.aload_n 0, 1) := by decide +kernel
theorem d_M_speaks_10 : decode (mC m_M_speaks) 10 = .ok (.getfield 101, 3) := by decide +kernel
theorem d_M_speaks_13 : decode (mC m_M_speaks) 13 = .ok (.iload_n 1, 1) := by decide +kernel
theorem d_M_speaks_14 : decode (mC m_M_speaks) 14 = .ok (.iaload, 1) := by decide +kernel
theorem d_M_speaks_15 : decode (mC m_M_speaks) 15 = .ok (.iconst (-1), 1) := by decide +kernel
theorem d_M_speaks_16 : decode (mC m_M_speaks) 16 = .ok (.if_icmp .ne (7), 3) := by decide +kernel
theorem d_M_speaks_19 : decode (mC m_M_speaks) 19 = .ok (.iconst 1, 1) := by decide +kernel
theorem d_M_speaks_20 : decode (mC m_M_speaks) 20 = .ok (.goto (4), 3) := by decide +kernel
theorem d_M_speaks_23 : decode (mC m_M_speaks) 23 = .ok (.iconst 0, 1) := by decide +kernel
theorem d_M_speaks_24 : decode (mC m_M_speaks) 24 = .ok (.ireturn, 1) := by decide +kernel
theorem d_M_vouch_0 : decode (mC m_M_vouch) 0 = .ok (.aload_n 0, 1) := by decide +kernel
theorem d_M_vouch_1 : decode (mC m_M_vouch) 1 = .ok (.iload_n 1, 1) := by decide +kernel
theorem d_M_vouch_2 : decode (mC m_M_vouch) 2 = .ok (.invokevirtual 383, 3) := by decide +kernel
theorem d_M_vouch_5 : decode (mC m_M_vouch) 5 = .ok (.ifCond .eq (15), 3) := by decide +kernel
theorem d_M_vouch_8 : decode (mC m_M_vouch) 8 = .ok (.aload_n 0, 1) := by decide +kernel
theorem d_M_vouch_9 : decode (mC m_M_vouch) 9 = .ok (.iload_n 2, 1) := by decide +kernel
theorem d_M_vouch_10 : decode (mC m_M_vouch) 10 = .ok (.invokevirtual 352, 3) := by decide +kernel
theorem d_M_vouch_13 : decode (mC m_M_vouch) 13 = .ok (.ifCond .eq (7), 3) := by decide +kernel
theorem d_M_vouch_16 : decode (mC m_M_vouch) 16 = .ok (.iconst 1, 1) := by decide +kernel
theorem d_M_vouch_17 : decode (mC m_M_vouch) 17 = .ok (.goto (4), 3) := by decide +kernel
theorem d_M_vouch_20 : decode (mC m_M_vouch) 20 = .ok (.iconst 0, 1) := by decide +kernel
theorem d_M_vouch_21 : decode (mC m_M_vouch) 21 = .ok (.istore_n 3, 1) := by decide +kernel
theorem d_M_vouch_22 : decode (mC m_M_vouch) 22 = .ok (.iload_n 3, 1) := by decide +kernel
theorem d_M_vouch_23 : decode (mC m_M_vouch) 23 = .ok (.ifCond .eq (48), 3) := by decide +kernel
theorem d_M_vouch_26 : decode (mC m_M_vouch) 26 = .ok (.aload_n 0, 1) := by decide +kernel
theorem d_M_vouch_27 : decode (mC m_M_vouch) 27 = .ok (.getfield 201, 3) := by decide +kernel
theorem d_M_vouch_30 : decode (mC m_M_vouch) 30 = .ok (.iload_n 1, 1) := by decide +kernel
theorem d_M_vouch_31 : decode (mC m_M_vouch) 31 = .ok (.baload, 1) := by decide +kernel
theorem d_M_vouch_32 : decode (mC m_M_vouch) 32 = .ok (.ifCond .eq (39), 3) := by decide +kernel
theorem d_M_vouch_35 : decode (mC m_M_vouch) 35 = .ok (.aload_n 0, 1) := by decide +kernel
theorem d_M_vouch_36 : decode (mC m_M_vouch) 36 = .ok (.iload_n 2, 1) := by decide +kernel
theorem d_M_vouch_37 : decode (mC m_M_vouch) 37 = .ok (.invokevirtual 386, 3) := by decide +kernel
theorem d_M_vouch_40 : decode (mC m_M_vouch) 40 = .ok (.ifCond .eq (31), 3) := by decide +kernel
theorem d_M_vouch_43 : decode (mC m_M_vouch) 43 = .ok (.aload_n 0, 1) := by decide +kernel
theorem d_M_vouch_44 : decode (mC m_M_vouch) 44 = .ok (.iload_n 2, 1) := by decide +kernel
theorem d_M_vouch_45 : decode (mC m_M_vouch) 45 = .ok (.invokevirtual 355, 3) := by decide +kernel
theorem d_M_vouch_48 : decode (mC m_M_vouch) 48 = .ok (.iconst 3, 1) := by decide +kernel
theorem d_M_vouch_49 : decode (mC m_M_vouch) 49 = .ok (.if_icmp .lt (22), 3) := by decide +kernel
theorem d_M_vouch_52 : decode (mC m_M_vouch) 52 = .ok (.aload_n 0, 1) := by decide +kernel
theorem d_M_vouch_53 : decode (mC m_M_vouch) 53 = .ok (.getfield 92, 3) := by decide +kernel
theorem d_M_vouch_56 : decode (mC m_M_vouch) 56 = .ok (.iload_n 2, 1) := by decide +kernel
theorem d_M_vouch_57 : decode (mC m_M_vouch) 57 = .ok (.iaload, 1) := by decide +kernel
theorem d_M_vouch_58 : decode (mC m_M_vouch) 58 = .ok (.aload_n 0, 1) := by decide +kernel
theorem d_M_vouch_59 : decode (mC m_M_vouch) 59 = .ok (.getfield 195, 3) := by decide +kernel
theorem d_M_vouch_62 : decode (mC m_M_vouch) 62 = .ok (.iload_n 1, 1) := by decide +kernel
theorem d_M_vouch_63 : decode (mC m_M_vouch) 63 = .ok (.iaload, 1) := by decide +kernel
theorem d_M_vouch_64 : decode (mC m_M_vouch) 64 = .ok (.if_icmp .eq (7), 3) := by decide +kernel
theorem d_M_vouch_67 : decode (mC m_M_vouch) 67 = .ok (.iconst 1, 1) := by decide +kernel
theorem d_M_vouch_68 : decode (mC m_M_vouch) 68 = .ok (.goto (4), 3) := by decide +kernel
theorem d_M_vouch_71 : decode (mC m_M_vouch) 71 = .ok (.iconst 0, 1) := by decide +kernel
theorem d_M_vouch_72 : decode (mC m_M_vouch) 72 = .ok (.istore 4, 2) := by decide +kernel
theorem d_M_vouch_74 : decode (mC m_M_vouch) 74 = .ok (.aload_n 0, 1) := by decide +kernel
theorem d_M_vouch_75 : decode (mC m_M_vouch) 75 = .ok (.iload_n 3, 1) := by decide +kernel
theorem d_M_vouch_76 : decode (mC m_M_vouch) 76 = .ok (.iload 4, 2) := by decide +kernel
theorem d_M_vouch_78 : decode (mC m_M_vouch) 78 = .ok (.ifCond .eq (25), 3) := by decide +kernel
theorem d_M_vouch_81 : decode (mC m_M_vouch) 81 = .ok (.aload_n 0, 1) := by decide +kernel
theorem d_M_vouch_82 : decode (mC m_M_vouch) 82 = .ok (.getfield 204, 3) := by decide +kernel
theorem d_M_vouch_85 : decode (mC m_M_vouch) 85 = .ok (.iload_n 1, 1) := by decide +kernel
theorem d_M_vouch_86 : decode (mC m_M_vouch) 86 = .ok (.iaload, 1) := by decide +kernel
theorem d_M_vouch_87 : decode (mC m_M_vouch) 87 = .ok (.aload_n 0, 1) := by decide +kernel
theorem d_M_vouch_88 : decode (mC m_M_vouch) 88 = .ok (.getfield 92, 3) := by decide +kernel
theorem d_M_vouch_91 : decode (mC m_M_vouch) 91 = .ok (.iload_n 2, 1) := by decide +kernel
theorem d_M_vouch_92 : decode (mC m_M_vouch) 92 = .ok (.iaload, 1) := by decide +kernel
theorem d_M_vouch_93 : decode (mC m_M_vouch) 93 = .ok (.ishr, 1) := by decide +kernel
theorem d_M_vouch_94 : decode (mC m_M_vouch) 94 = .ok (.iconst 1, 1) := by decide +kernel
theorem d_M_vouch_95 : decode (mC m_M_vouch) 95 = .ok (.iand, 1) := by decide +kernel
theorem d_M_vouch_96 : decode (mC m_M_vouch) 96 = .ok (.ifCond .ne (7), 3) := by decide +kernel
theorem d_M_vouch_99 : decode (mC m_M_vouch) 99 = .ok (.iconst 1, 1) := by decide +kernel
theorem d_M_vouch_100 : decode (mC m_M_vouch) 100 = .ok (.goto (4), 3) := by decide +kernel
theorem d_M_vouch_103 : decode (mC m_M_vouch) 103 = .ok (.iconst 0, 1) := by decide +kernel
theorem d_M_vouch_104 : decode (mC m_M_vouch) 104 = .ok (.invokevirtual 274, 3) := by decide +kernel
theorem d_M_vouch_107 : decode (mC m_M_vouch) 107 = .ok (.ifCond .ne (5), 3) := by decide +kernel
theorem d_M_vouch_110 : decode (mC m_M_vouch) 110 = .ok (.iconst 0, 1) := by decide +kernel
theorem d_M_vouch_111 : decode (mC m_M_vouch) 111 = .ok (.ireturn, 1) := by decide +kernel
theorem d_M_vouch_112 : decode (mC m_M_vouch) 112 = .ok (.aload_n 0, 1) := by decide +kernel
theorem d_M_vouch_113 : decode (mC m_M_vouch) 113 = .ok (.getfield 204, 3) := by decide +kernel
theorem d_M_vouch_116 : decode (mC m_M_vouch) 116 = .ok (.iload_n 1, 1) := by decide +kernel
theorem d_M_vouch_117 : decode (mC m_M_vouch) 117 = .ok (.dup2, 1) := by decide +kernel
theorem d_M_vouch_118 : decode (mC m_M_vouch) 118 = .ok (.iaload, 1) := by decide +kernel
theorem d_M_vouch_119 : decode (mC m_M_vouch) 119 = .ok (.iconst 1, 1) := by decide +kernel
theorem d_M_vouch_120 : decode (mC m_M_vouch) 120 = .ok (.aload_n 0, 1) := by decide +kernel
theorem d_M_vouch_121 : decode (mC m_M_vouch) 121 = .ok (.getfield 92, 3) := by decide +kernel
theorem d_M_vouch_124 : decode (mC m_M_vouch) 124 = .ok (.iload_n 2, 1) := by decide +kernel
theorem d_M_vouch_125 : decode (mC m_M_vouch) 125 = .ok (.iaload, 1) := by decide +kernel
theorem d_M_vouch_126 : decode (mC m_M_vouch) 126 = .ok (.ishl, 1) := by decide +kernel
theorem d_M_vouch_127 : decode (mC m_M_vouch) 127 = .ok (.ior, 1) := by decide +kernel
theorem d_M_vouch_128 : decode (mC m_M_vouch) 128 = .ok (.iastore, 1) := by decide +kernel
theorem d_M_vouch_129 : decode (mC m_M_vouch) 129 = .ok (.aload_n 0, 1) := by decide +kernel
theorem d_M_vouch_130 : decode (mC m_M_vouch) 130 = .ok (.getfield 207, 3) := by decide +kernel
theorem d_M_vouch_133 : decode (mC m_M_vouch) 133 = .ok (.iload_n 1, 1) := by decide +kernel
theorem d_M_vouch_134 : decode (mC m_M_vouch) 134 = .ok (.dup2, 1) := by decide +kernel
theorem d_M_vouch_135 : decode (mC m_M_vouch) 135 = .ok (.iaload, 1) := by decide +kernel
theorem d_M_vouch_136 : decode (mC m_M_vouch) 136 = .ok (.aload_n 0, 1) := by decide +kernel
theorem d_M_vouch_137 : decode (mC m_M_vouch) 137 = .ok (.iload_n 2, 1) := by decide +kernel
theorem d_M_vouch_138 : decode (mC m_M_vouch) 138 = .ok (.invokevirtual 355, 3) := by decide +kernel
theorem d_M_vouch_141 : decode (mC m_M_vouch) 141 = .ok (.iadd, 1) := by decide +kernel
theorem d_M_vouch_142 : decode (mC m_M_vouch) 142 = .ok (.iastore, 1) := by decide +kernel
theorem d_M_vouch_143 : decode (mC m_M_vouch) 143 = .ok (.aload_n 0, 1) := by decide +kernel
theorem d_M_vouch_144 : decode (mC m_M_vouch) 144 = .ok (.getfield 207, 3) := by decide +kernel
theorem d_M_vouch_147 : decode (mC m_M_vouch) 147 = .ok (.iload_n 1, 1) := by decide +kernel
theorem d_M_vouch_148 : decode (mC m_M_vouch) 148 = .ok (.iaload, 1) := by decide +kernel
theorem d_M_vouch_149 : decode (mC m_M_vouch) 149 = .ok (.ireturn, 1) := by decide +kernel
theorem d_IN_bitCount_0 : decode (mC m_IN_bitCount) 0 = .ok (.iload_n 0, 1) := by decide +kernel
theorem d_IN_bitCount_1 : decode (mC m_IN_bitCount) 1 = .ok (.iload_n 0, 1) := by decide +kernel
theorem d_IN_bitCount_2 : decode (mC m_IN_bitCount) 2 = .ok (.iconst 1, 1) := by decide +kernel
theorem d_IN_bitCount_3 : decode (mC m_IN_bitCount) 3 = .ok (.iushr, 1) := by decide +kernel
theorem d_IN_bitCount_4 : decode (mC m_IN_bitCount) 4 = .ok (.ldc_w 265, 3) := by decide +kernel
theorem d_IN_bitCount_7 : decode (mC m_IN_bitCount) 7 = .ok (.iand, 1) := by decide +kernel
theorem d_IN_bitCount_8 : decode (mC m_IN_bitCount) 8 = .ok (.isub, 1) := by decide +kernel
theorem d_IN_bitCount_9 : decode (mC m_IN_bitCount) 9 = .ok (.istore_n 0, 1) := by decide +kernel
theorem d_IN_bitCount_10 : decode (mC m_IN_bitCount) 10 = .ok (.iload_n 0, 1) := by decide +kernel
theorem d_IN_bitCount_11 : decode (mC m_IN_bitCount) 11 = .ok (.ldc_w 266, 3) := by decide +kernel
theorem d_IN_bitCount_14 : decode (mC m_IN_bitCount) 14 = .ok (.iand, 1) := by decide +kernel
theorem d_IN_bitCount_15 : decode (mC m_IN_bitCount) 15 = .ok (.iload_n 0, 1) := by decide +kernel
theorem d_IN_bitCount_16 : decode (mC m_IN_bitCount) 16 = .ok (.iconst 2, 1) := by decide +kernel
theorem d_IN_bitCount_17 : decode (mC m_IN_bitCount) 17 = .ok (.iushr, 1) := by decide +kernel
theorem d_IN_bitCount_18 : decode (mC m_IN_bitCount) 18 = .ok (.ldc_w 266, 3) := by decide +kernel
theorem d_IN_bitCount_21 : decode (mC m_IN_bitCount) 21 = .ok (.iand, 1) := by decide +kernel
theorem d_IN_bitCount_22 : decode (mC m_IN_bitCount) 22 = .ok (.iadd, 1) := by decide +kernel
theorem d_IN_bitCount_23 : decode (mC m_IN_bitCount) 23 = .ok (.istore_n 0, 1) := by decide +kernel
theorem d_IN_bitCount_24 : decode (mC m_IN_bitCount) 24 = .ok (.iload_n 0, 1) := by decide +kernel
theorem d_IN_bitCount_25 : decode (mC m_IN_bitCount) 25 = .ok (.iload_n 0, 1) := by decide +kernel
theorem d_IN_bitCount_26 : decode (mC m_IN_bitCount) 26 = .ok (.iconst 4, 1) := by decide +kernel
theorem d_IN_bitCount_27 : decode (mC m_IN_bitCount) 27 = .ok (.iushr, 1) := by decide +kernel
theorem d_IN_bitCount_28 : decode (mC m_IN_bitCount) 28 = .ok (.iadd, 1) := by decide +kernel
theorem d_IN_bitCount_29 : decode (mC m_IN_bitCount) 29 = .ok (.ldc_w 267, 3) := by decide +kernel
theorem d_IN_bitCount_32 : decode (mC m_IN_bitCount) 32 = .ok (.iand, 1) := by decide +kernel
theorem d_IN_bitCount_33 : decode (mC m_IN_bitCount) 33 = .ok (.istore_n 0, 1) := by decide +kernel
theorem d_IN_bitCount_34 : decode (mC m_IN_bitCount) 34 = .ok (.iload_n 0, 1) := by decide +kernel
theorem d_IN_bitCount_35 : decode (mC m_IN_bitCount) 35 = .ok (.iload_n 0, 1) := by decide +kernel
theorem d_IN_bitCount_36 : decode (mC m_IN_bitCount) 36 = .ok (.bipush (8), 2) := by decide +kernel
theorem d_IN_bitCount_38 : decode (mC m_IN_bitCount) 38 = .ok (.iushr, 1) := by decide +kernel
theorem d_IN_bitCount_39 : decode (mC m_IN_bitCount) 39 = .ok (.iadd, 1) := by decide +kernel
theorem d_IN_bitCount_40 : decode (mC m_IN_bitCount) 40 = .ok (.istore_n 0, 1) := by decide +kernel
theorem d_IN_bitCount_41 : decode (mC m_IN_bitCount) 41 = .ok (.iload_n 0, 1) := by decide +kernel
theorem d_IN_bitCount_42 : decode (mC m_IN_bitCount) 42 = .ok (.iload_n 0, 1) := by decide +kernel
theorem d_IN_bitCount_43 : decode (mC m_IN_bitCount) 43 = .ok (.bipush (16), 2) := by decide +kernel
theorem d_IN_bitCount_45 : decode (mC m_IN_bitCount) 45 = .ok (.iushr, 1) := by decide +kernel
theorem d_IN_bitCount_46 : decode (mC m_IN_bitCount) 46 = .ok (.iadd, 1) := by decide +kernel
theorem d_IN_bitCount_47 : decode (mC m_IN_bitCount) 47 = .ok (.istore_n 0, 1) := by decide +kernel
theorem d_IN_bitCount_48 : decode (mC m_IN_bitCount) 48 = .ok (.iload_n 0, 1) := by decide +kernel
theorem d_IN_bitCount_49 : decode (mC m_IN_bitCount) 49 = .ok (.bipush (63), 2) := by decide +kernel
theorem d_IN_bitCount_51 : decode (mC m_IN_bitCount) 51 = .ok (.iand, 1) := by decide +kernel
theorem d_IN_bitCount_52 : decode (mC m_IN_bitCount) 52 = .ok (.ireturn, 1) := by decide +kernel
theorem d_Recovery_countVouchers_0 : decode (mC m_Recovery_countVouchers) 0 = .ok (.aload_n 0, 1) := by decide +kernel
theorem d_Recovery_countVouchers_1 : decode (mC m_Recovery_countVouchers) 1 = .ok (.getfield 21, 3) := by decide +kernel
theorem d_Recovery_countVouchers_4 : decode (mC m_Recovery_countVouchers) 4 = .ok (.invokestatic 24, 3) := by decide +kernel
theorem d_Recovery_countVouchers_7 : decode (mC m_Recovery_countVouchers) 7 = .ok (.ireturn, 1) := by decide +kernel
theorem d_K_stop_0 : decode (mC m_K_stop) 0 = .ok (.aload_n 0, 1) := by decide +kernel
theorem d_K_stop_1 : decode (mC m_K_stop) 1 = .ok (.iload_n 1, 1) := by decide +kernel
theorem d_K_stop_2 : decode (mC m_K_stop) 2 = .ok (.invokevirtual 395, 3) := by decide +kernel
theorem d_K_stop_5 : decode (mC m_K_stop) 5 = .ok (.astore_n 3, 1) := by decide +kernel
theorem d_K_stop_6 : decode (mC m_K_stop) 6 = .ok (.aload_n 0, 1) := by decide +kernel
theorem d_K_stop_7 : decode (mC m_K_stop) 7 = .ok (.iload_n 2, 1) := by decide +kernel
theorem d_K_stop_8 : decode (mC m_K_stop) 8 = .ok (.invokevirtual 202, 3) := by decide +kernel
theorem d_K_stop_11 : decode (mC m_K_stop) 11 = .ok (.astore 4, 2) := by decide +kernel
theorem d_K_stop_13 : decode (mC m_K_stop) 13 = .ok (.aload_n 3, 1) := by decide +kernel
theorem d_K_stop_14 : decode (mC m_K_stop) 14 = .ok (.getfield 399, 3) := by decide +kernel
theorem d_K_stop_17 : decode (mC m_K_stop) 17 = .ok (.ifCond .eq (35), 3) := by decide +kernel
theorem d_K_stop_20 : decode (mC m_K_stop) 20 = .ok (.aload 4, 2) := by decide +kernel
theorem d_K_stop_22 : decode (mC m_K_stop) 22 = .ok (.getfield 206, 3) := by decide +kernel
theorem d_K_stop_25 : decode (mC m_K_stop) 25 = .ok (.ifCond .eq (27), 3) := by decide +kernel
theorem d_K_stop_28 : decode (mC m_K_stop) 28 = .ok (.aload 4, 2) := by decide +kernel
theorem d_K_stop_30 : decode (mC m_K_stop) 30 = .ok (.getfield 218, 3) := by decide +kernel
theorem d_K_stop_33 : decode (mC m_K_stop) 33 = .ok (.ifnonnull (19), 3) := by decide +kernel
theorem d_K_stop_36 : decode (mC m_K_stop) 36 = .ok (.aload 4, 2) := by decide +kernel
theorem d_K_stop_38 : decode (mC m_K_stop) 38 = .ok (.getfield 225, 3) := by decide +kernel
theorem d_K_stop_41 : decode (mC m_K_stop) 41 = .ok (.aload_n 3, 1) := by decide +kernel
theorem d_K_stop_42 : decode (mC m_K_stop) 42 = .ok (.getfield 402, 3) := by decide +kernel
theorem d_K_stop_45 : decode (mC m_K_stop) 45 = .ok (.if_acmp .ne (7), 3) := by decide +kernel
theorem d_K_stop_48 : decode (mC m_K_stop) 48 = .ok (.iconst 1, 1) := by decide +kernel
theorem d_K_stop_49 : decode (mC m_K_stop) 49 = .ok (.goto (4), 3) := by decide +kernel
theorem d_K_stop_52 : decode (mC m_K_stop) 52 = .ok (.iconst 0, 1) := by decide +kernel
theorem d_K_stop_53 : decode (mC m_K_stop) 53 = .ok (.invokestatic 96, 3) := by decide +kernel
theorem d_K_stop_56 : decode (mC m_K_stop) 56 = .ok (.aload_n 3, 1) := by decide +kernel
theorem d_K_stop_57 : decode (mC m_K_stop) 57 = .ok (.iconst 0, 1) := by decide +kernel
theorem d_K_stop_58 : decode (mC m_K_stop) 58 = .ok (.putfield 399, 3) := by decide +kernel
theorem d_K_stop_61 : decode (mC m_K_stop) 61 = .ok (.aload_n 3, 1) := by decide +kernel
theorem d_K_stop_62 : decode (mC m_K_stop) 62 = .ok (.invokevirtual 410, 3) := by decide +kernel
theorem d_K_stop_65 : decode (mC m_K_stop) 65 = .ok (.ireturn, 1) := by decide +kernel
theorem d_W_stop_0 : decode (mC m_W_stop) 0 = .ok (.aload_n 3, 1) := by decide +kernel
theorem d_W_stop_1 : decode (mC m_W_stop) 1 = .ok (.iconst 0, 1) := by decide +kernel
theorem d_W_stop_2 : decode (mC m_W_stop) 2 = .ok (.aload_n 0, 1) := by decide +kernel
theorem d_W_stop_3 : decode (mC m_W_stop) 3 = .ok (.iload_n 1, 1) := by decide +kernel
theorem d_W_stop_4 : decode (mC m_W_stop) 4 = .ok (.iload_n 2, 1) := by decide +kernel
theorem d_W_stop_5 : decode (mC m_W_stop) 5 = .ok (.invokevirtual 142, 3) := by decide +kernel
theorem d_W_stop_8 : decode (mC m_W_stop) 8 = .ok (.i2l, 1) := by decide +kernel
theorem d_W_stop_9 : decode (mC m_W_stop) 9 = .ok (.lastore, 1) := by decide +kernel
theorem d_W_stop_10 : decode (mC m_W_stop) 10 = .ok (.goto (11), 3) := by decide +kernel
theorem d_W_stop_13 : decode (mC m_W_stop) 13 = .ok (.astore 4, 2) := by decide +kernel
theorem d_W_stop_15 : decode (mC m_W_stop) 15 = .ok (.iconst 1, 1) := by decide +kernel
theorem d_W_stop_16 : decode (mC m_W_stop) 16 = .ok (.ireturn, 1) := by decide +kernel
theorem d_W_stop_17 : decode (mC m_W_stop) 17 = .ok (.astore 4, 2) := by decide +kernel
theorem d_W_stop_19 : decode (mC m_W_stop) 19 = .ok (.iconst 2, 1) := by decide +kernel
theorem d_W_stop_20 : decode (mC m_W_stop) 20 = .ok (.ireturn, 1) := by decide +kernel
theorem d_W_stop_21 : decode (mC m_W_stop) 21 = .ok (.iconst 0, 1) := by decide +kernel
theorem d_W_stop_22 : decode (mC m_W_stop) 22 = .ok (.ireturn, 1) := by decide +kernel
theorem d_M_many_0 : decode (mC m_M_many) 0 = .ok (.iconst 0, 1) := by decide +kernel
theorem d_M_many_1 : decode (mC m_M_many) 1 = .ok (.istore_n 1, 1) := by decide +kernel
theorem d_M_many_2 : decode (mC m_M_many) 2 = .ok (.iconst 0, 1) := by decide +kernel
theorem d_M_many_3 : decode (mC m_M_many) 3 = .ok (.istore_n 2, 1) := by decide +kernel
theorem d_M_many_4 : decode (mC m_M_many) 4 = .ok (.iload_n 2, 1) := by decide +kernel
theorem d_M_many_5 : decode (mC m_M_many) 5 = .ok (.bipush (6), 2) := by decide +kernel
theorem d_M_many_7 : decode (mC m_M_many) 7 = .ok (.if_icmp .ge (17), 3) := by decide +kernel
theorem d_M_many_10 : decode (mC m_M_many) 10 = .ok (.iload_n 1, 1) := by decide +kernel
theorem d_M_many_11 : decode (mC m_M_many) 11 = .ok (.iload_n 0, 1) := by decide +kernel
theorem d_M_many_12 : decode (mC m_M_many) 12 = .ok (.iload_n 2, 1) := by decide +kernel
theorem d_M_many_13 : decode (mC m_M_many) 13 = .ok (.ishr, 1) := by decide +kernel
theorem d_M_many_14 : decode (mC m_M_many) 14 = .ok (.iconst 1, 1) := by decide +kernel
theorem d_M_many_15 : decode (mC m_M_many) 15 = .ok (.iand, 1) := by decide +kernel
theorem d_M_many_16 : decode (mC m_M_many) 16 = .ok (.iadd, 1) := by decide +kernel
theorem d_M_many_17 : decode (mC m_M_many) 17 = .ok (.istore_n 1, 1) := by decide +kernel
theorem d_M_many_18 : decode (mC m_M_many) 18 = .ok (.iinc 2 (1), 3) := by decide +kernel
theorem d_M_many_21 : decode (mC m_M_many) 21 = .ok (.goto (-17), 3) := by decide +kernel
theorem d_M_many_24 : decode (mC m_M_many) 24 = .ok (.iload_n 1, 1) := by decide +kernel
theorem d_M_many_25 : decode (mC m_M_many) 25 = .ok (.ireturn, 1) := by decide +kernel
theorem d_M_stop_0 : decode (mC m_M_stop) 0 = .ok (.aload_n 0, 1) := by decide +kernel
theorem d_M_stop_1 : decode (mC m_M_stop) 1 = .ok (.iload_n 1, 1) := by decide +kernel
theorem d_M_stop_2 : decode (mC m_M_stop) 2 = .ok (.invokevirtual 383, 3) := by decide +kernel
theorem d_M_stop_5 : decode (mC m_M_stop) 5 = .ok (.ifCond .eq (15), 3) := by decide +kernel
theorem d_M_stop_8 : decode (mC m_M_stop) 8 = .ok (.aload_n 0, 1) := by decide +kernel
theorem d_M_stop_9 : decode (mC m_M_stop) 9 = .ok (.iload_n 2, 1) := by decide +kernel
theorem d_M_stop_10 : decode (mC m_M_stop) 10 = .ok (.invokevirtual 352, 3) := by decide +kernel
theorem d_M_stop_13 : decode (mC m_M_stop) 13 = .ok (.ifCond .eq (7), 3) := by decide +kernel
theorem d_M_stop_16 : decode (mC m_M_stop) 16 = .ok (.iconst 1, 1) := by decide +kernel
theorem d_M_stop_17 : decode (mC m_M_stop) 17 = .ok (.goto (4), 3) := by decide +kernel
theorem d_M_stop_20 : decode (mC m_M_stop) 20 = .ok (.iconst 0, 1) := by decide +kernel
theorem d_M_stop_21 : decode (mC m_M_stop) 21 = .ok (.istore_n 3, 1) := by decide +kernel
theorem d_M_stop_22 : decode (mC m_M_stop) 22 = .ok (.aload_n 0, 1) := by decide +kernel
theorem d_M_stop_23 : decode (mC m_M_stop) 23 = .ok (.iload_n 3, 1) := by decide +kernel
theorem d_M_stop_24 : decode (mC m_M_stop) 24 = .ok (.iload_n 3, 1) := by decide +kernel
theorem d_M_stop_25 : decode (mC m_M_stop) 25 = .ok (.ifCond .eq (39), 3) := by decide +kernel
theorem d_M_stop_28 : decode (mC m_M_stop) 28 = .ok (.aload_n 0, 1) := by decide +kernel
theorem d_M_stop_29 : decode (mC m_M_stop) 29 = .ok (.getfield 201, 3) := by decide +kernel
theorem d_M_stop_32 : decode (mC m_M_stop) 32 = .ok (.iload_n 1, 1) := by decide +kernel
theorem d_M_stop_33 : decode (mC m_M_stop) 33 = .ok (.baload, 1) := by decide +kernel
theorem d_M_stop_34 : decode (mC m_M_stop) 34 = .ok (.ifCond .eq (30), 3) := by decide +kernel
theorem d_M_stop_37 : decode (mC m_M_stop) 37 = .ok (.aload_n 0, 1) := by decide +kernel
theorem d_M_stop_38 : decode (mC m_M_stop) 38 = .ok (.iload_n 2, 1) := by decide +kernel
theorem d_M_stop_39 : decode (mC m_M_stop) 39 = .ok (.invokevirtual 386, 3) := by decide +kernel
theorem d_M_stop_42 : decode (mC m_M_stop) 42 = .ok (.ifCond .eq (22), 3) := by decide +kernel
theorem d_M_stop_45 : decode (mC m_M_stop) 45 = .ok (.aload_n 0, 1) := by decide +kernel
theorem d_M_stop_46 : decode (mC m_M_stop) 46 = .ok (.getfield 92, 3) := by decide +kernel
theorem d_M_stop_49 : decode (mC m_M_stop) 49 = .ok (.iload_n 2, 1) := by decide +kernel
theorem d_M_stop_50 : decode (mC m_M_stop) 50 = .ok (.iaload, 1) := by decide +kernel
theorem d_M_stop_51 : decode (mC m_M_stop) 51 = .ok (.aload_n 0, 1) := by decide +kernel
theorem d_M_stop_52 : decode (mC m_M_stop) 52 = .ok (.getfield 195, 3) := by decide +kernel
theorem d_M_stop_55 : decode (mC m_M_stop) 55 = .ok (.iload_n 1, 1) := by decide +kernel
theorem d_M_stop_56 : decode (mC m_M_stop) 56 = .ok (.iaload, 1) := by decide +kernel
theorem d_M_stop_57 : decode (mC m_M_stop) 57 = .ok (.if_icmp .ne (7), 3) := by decide +kernel
theorem d_M_stop_60 : decode (mC m_M_stop) 60 = .ok (.iconst 1, 1) := by decide +kernel
theorem d_M_stop_61 : decode (mC m_M_stop) 61 = .ok (.goto (4), 3) := by decide +kernel
theorem d_M_stop_64 : decode (mC m_M_stop) 64 = .ok (.iconst 0, 1) := by decide +kernel
theorem d_M_stop_65 : decode (mC m_M_stop) 65 = .ok (.invokevirtual 274, 3) := by decide +kernel
theorem d_M_stop_68 : decode (mC m_M_stop) 68 = .ok (.ifCond .ne (5), 3) := by decide +kernel
theorem d_M_stop_71 : decode (mC m_M_stop) 71 = .ok (.iconst 0, 1) := by decide +kernel
theorem d_M_stop_72 : decode (mC m_M_stop) 72 = .ok (.ireturn, 1) := by decide +kernel
theorem d_M_stop_73 : decode (mC m_M_stop) 73 = .ok (.aload_n 0, 1) := by decide +kernel
theorem d_M_stop_74 : decode (mC m_M_stop) 74 = .ok (.getfield 201, 3) := by decide +kernel
theorem d_M_stop_77 : decode (mC m_M_stop) 77 = .ok (.iload_n 1, 1) := by decide +kernel
theorem d_M_stop_78 : decode (mC m_M_stop) 78 = .ok (.iconst 0, 1) := by decide +kernel
theorem d_M_stop_79 : decode (mC m_M_stop) 79 = .ok (.bastore, 1) := by decide +kernel
theorem d_M_stop_80 : decode (mC m_M_stop) 80 = .ok (.aload_n 0, 1) := by decide +kernel
theorem d_M_stop_81 : decode (mC m_M_stop) 81 = .ok (.getfield 204, 3) := by decide +kernel
theorem d_M_stop_84 : decode (mC m_M_stop) 84 = .ok (.iload_n 1, 1) := by decide +kernel
theorem d_M_stop_85 : decode (mC m_M_stop) 85 = .ok (.iaload, 1) := by decide +kernel
theorem d_M_stop_86 : decode (mC m_M_stop) 86 = .ok (.invokestatic 389, 3) := by decide +kernel
theorem d_M_stop_89 : decode (mC m_M_stop) 89 = .ok (.ireturn, 1) := by decide +kernel
theorem d_Person_levelOfEnrolled_0 : decode (mC m_Person_levelOfEnrolled) 0 = .ok (.iconst 0, 1) := by decide +kernel
theorem d_Person_levelOfEnrolled_1 : decode (mC m_Person_levelOfEnrolled) 1 = .ok (.istore_n 1, 1) := by decide +kernel
theorem d_Person_levelOfEnrolled_2 : decode (mC m_Person_levelOfEnrolled) 2 = .ok (.iconst 0, 1) := by decide +kernel
theorem d_Person_levelOfEnrolled_3 : decode (mC m_Person_levelOfEnrolled) 3 = .ok (.istore_n 2, 1) := by decide +kernel
theorem d_Person_levelOfEnrolled_4 : decode (mC m_Person_levelOfEnrolled) 4 = .ok (.iload_n 2, 1) := by decide +kernel
theorem d_Person_levelOfEnrolled_5 : decode (mC m_Person_levelOfEnrolled) 5 = .ok (.iconst 3, 1) := by decide +kernel
theorem d_Person_levelOfEnrolled_6 : decode (mC m_Person_levelOfEnrolled) 6 = .ok (.if_icmp .ge (25), 3) := by decide +kernel
theorem d_Person_levelOfEnrolled_9 : decode (mC m_Person_levelOfEnrolled) 9 = .ok (.aload_n 0, 1) := by decide +kernel
theorem d_Person_levelOfEnrolled_10 : decode (mC m_Person_levelOfEnrolled) 10 = .ok (.getfield 9, 3) := by decide +kernel
theorem d_Person_levelOfEnrolled_13 : decode (mC m_Person_levelOfEnrolled) 13 = .ok (.iload_n 2, 1) := by decide +kernel
theorem d_Person_levelOfEnrolled_14 : decode (mC m_Person_levelOfEnrolled) 14 = .ok (.iaload, 1) := by decide +kernel
theorem d_Person_levelOfEnrolled_15 : decode (mC m_Person_levelOfEnrolled) 15 = .ok (.ifCond .eq (10), 3) := by decide +kernel
theorem d_Person_levelOfEnrolled_18 : decode (mC m_Person_levelOfEnrolled) 18 = .ok (.iload_n 1, 1) := by decide +kernel
theorem d_Person_levelOfEnrolled_19 : decode (mC m_Person_levelOfEnrolled) 19 = .ok (.iload_n 2, 1) := by decide +kernel
theorem d_Person_levelOfEnrolled_20 : decode (mC m_Person_levelOfEnrolled) 20 = .ok (.invokestatic 41, 3) := by decide +kernel
theorem d_Person_levelOfEnrolled_23 : decode (mC m_Person_levelOfEnrolled) 23 = .ok (.iadd, 1) := by decide +kernel
theorem d_Person_levelOfEnrolled_24 : decode (mC m_Person_levelOfEnrolled) 24 = .ok (.istore_n 1, 1) := by decide +kernel
theorem d_Person_levelOfEnrolled_25 : decode (mC m_Person_levelOfEnrolled) 25 = .ok (.iinc 2 (1), 3) := by decide +kernel
theorem d_Person_levelOfEnrolled_28 : decode (mC m_Person_levelOfEnrolled) 28 = .ok (.goto (-24), 3) := by decide +kernel
theorem d_Person_levelOfEnrolled_31 : decode (mC m_Person_levelOfEnrolled) 31 = .ok (.iload_n 1, 1) := by decide +kernel
theorem d_Person_levelOfEnrolled_32 : decode (mC m_Person_levelOfEnrolled) 32 = .ok (.ireturn, 1) := by decide +kernel
theorem d_K_endSessionsOf_0 : decode (mC m_K_endSessionsOf) 0 = .ok (.aload_n 0, 1) := by decide +kernel
theorem d_K_endSessionsOf_1 : decode (mC m_K_endSessionsOf) 1 = .ok (.getfield 99, 3) := by decide +kernel
theorem d_K_endSessionsOf_4 : decode (mC m_K_endSessionsOf) 4 = .ok (.istore_n 2, 1) := by decide +kernel
theorem d_K_endSessionsOf_5 : decode (mC m_K_endSessionsOf) 5 = .ok (.iconst 0, 1) := by decide +kernel
theorem d_K_endSessionsOf_6 : decode (mC m_K_endSessionsOf) 6 = .ok (.istore_n 3, 1) := by decide +kernel
theorem d_K_endSessionsOf_7 : decode (mC m_K_endSessionsOf) 7 = .ok (.iload_n 3, 1) := by decide +kernel
theorem d_K_endSessionsOf_8 : decode (mC m_K_endSessionsOf) 8 = .ok (.aload_n 0, 1) := by decide +kernel
theorem d_K_endSessionsOf_9 : decode (mC m_K_endSessionsOf) 9 = .ok (.getfield 46, 3) := by decide +kernel
theorem d_K_endSessionsOf_12 : decode (mC m_K_endSessionsOf) 12 = .ok (.invokevirtual 134, 3) := by decide +kernel
theorem d_K_endSessionsOf_15 : decode (mC m_K_endSessionsOf) 15 = .ok (.if_icmp .ge (45), 3) := by decide +kernel
theorem d_K_endSessionsOf_18 : decode (mC m_K_endSessionsOf) 18 = .ok (.aload_n 0, 1) := by decide +kernel
theorem d_K_endSessionsOf_19 : decode (mC m_K_endSessionsOf) 19 = .ok (.getfield 46, 3) := by decide +kernel
theorem d_K_endSessionsOf_22 : decode (mC m_K_endSessionsOf) 22 = .ok (.iload_n 3, 1) := by decide +kernel
theorem d_K_endSessionsOf_23 : decode (mC m_K_endSessionsOf) 23 = .ok (.invokevirtual 152, 3) := by decide +kernel
theorem d_K_endSessionsOf_26 : decode (mC m_K_endSessionsOf) 26 = .ok (.checkcast 207, 3) := by decide +kernel
theorem d_K_endSessionsOf_29 : decode (mC m_K_endSessionsOf) 29 = .ok (.astore 4, 2) := by decide +kernel
theorem d_K_endSessionsOf_31 : decode (mC m_K_endSessionsOf) 31 = .ok (.aload 4, 2) := by decide +kernel
theorem d_K_endSessionsOf_33 : decode (mC m_K_endSessionsOf) 33 = .ok (.getfield 225, 3) := by decide +kernel
theorem d_K_endSessionsOf_36 : decode (mC m_K_endSessionsOf) 36 = .ok (.aload_n 1, 1) := by decide +kernel
theorem d_K_endSessionsOf_37 : decode (mC m_K_endSessionsOf) 37 = .ok (.if_acmp .ne (17), 3) := by decide +kernel
theorem d_K_endSessionsOf_40 : decode (mC m_K_endSessionsOf) 40 = .ok (.aload 4, 2) := by decide +kernel
theorem d_K_endSessionsOf_42 : decode (mC m_K_endSessionsOf) 42 = .ok (.getfield 206, 3) := by decide +kernel
theorem d_K_endSessionsOf_45 : decode (mC m_K_endSessionsOf) 45 = .ok (.ifCond .eq (9), 3) := by decide +kernel
theorem d_K_endSessionsOf_48 : decode (mC m_K_endSessionsOf) 48 = .ok (.aload_n 0, 1) := by decide +kernel
theorem d_K_endSessionsOf_49 : decode (mC m_K_endSessionsOf) 49 = .ok (.aload 4, 2) := by decide +kernel
theorem d_K_endSessionsOf_51 : decode (mC m_K_endSessionsOf) 51 = .ok (.invokevirtual 242, 3) := by decide +kernel
theorem d_K_endSessionsOf_54 : decode (mC m_K_endSessionsOf) 54 = .ok (.iinc 3 (1), 3) := by decide +kernel
theorem d_K_endSessionsOf_57 : decode (mC m_K_endSessionsOf) 57 = .ok (.goto (-50), 3) := by decide +kernel
theorem d_K_endSessionsOf_60 : decode (mC m_K_endSessionsOf) 60 = .ok (.iload_n 2, 1) := by decide +kernel
theorem d_K_endSessionsOf_61 : decode (mC m_K_endSessionsOf) 61 = .ok (.aload_n 0, 1) := by decide +kernel
theorem d_K_endSessionsOf_62 : decode (mC m_K_endSessionsOf) 62 = .ok (.getfield 99, 3) := by decide +kernel
theorem d_K_endSessionsOf_65 : decode (mC m_K_endSessionsOf) 65 = .ok (.isub, 1) := by decide +kernel
theorem d_K_endSessionsOf_66 : decode (mC m_K_endSessionsOf) 66 = .ok (.ireturn, 1) := by decide +kernel
theorem d_Person_loseFactors_0 : decode (mC m_Person_loseFactors) 0 = .ok (.iconst 0, 1) := by decide +kernel
theorem d_Person_loseFactors_1 : decode (mC m_Person_loseFactors) 1 = .ok (.istore_n 1, 1) := by decide +kernel
theorem d_Person_loseFactors_2 : decode (mC m_Person_loseFactors) 2 = .ok (.iload_n 1, 1) := by decide +kernel
theorem d_Person_loseFactors_3 : decode (mC m_Person_loseFactors) 3 = .ok (.iconst 3, 1) := by decide +kernel
theorem d_Person_loseFactors_4 : decode (mC m_Person_loseFactors) 4 = .ok (.if_icmp .ge (16), 3) := by decide +kernel
theorem d_Person_loseFactors_7 : decode (mC m_Person_loseFactors) 7 = .ok (.aload_n 0, 1) := by decide +kernel
theorem d_Person_loseFactors_8 : decode (mC m_Person_loseFactors) 8 = .ok (.getfield 9, 3) := by decide +kernel
theorem d_Person_loseFactors_11 : decode (mC m_Person_loseFactors) 11 = .ok (.iload_n 1, 1) := by decide +kernel
theorem d_Person_loseFactors_12 : decode (mC m_Person_loseFactors) 12 = .ok (.iconst 0, 1) := by decide +kernel
theorem d_Person_loseFactors_13 : decode (mC m_Person_loseFactors) 13 = .ok (.iastore, 1) := by decide +kernel
theorem d_Person_loseFactors_14 : decode (mC m_Person_loseFactors) 14 = .ok (.iinc 1 (1), 3) := by decide +kernel
theorem d_Person_loseFactors_17 : decode (mC m_Person_loseFactors) 17 = .ok (.goto (-15), 3) := by decide +kernel
theorem d_Person_loseFactors_20 : decode (mC m_Person_loseFactors) 20 = .ok (.return_, 1) := by decide +kernel
theorem d_K_finish_0 : decode (mC m_K_finish) 0 = .ok (.aload_n 0, 1) := by decide +kernel
theorem d_K_finish_1 : decode (mC m_K_finish) 1 = .ok (.iload_n 1, 1) := by decide +kernel
theorem d_K_finish_2 : decode (mC m_K_finish) 2 = .ok (.invokevirtual 395, 3) := by decide +kernel
theorem d_K_finish_5 : decode (mC m_K_finish) 5 = .ok (.astore_n 2, 1) := by decide +kernel
theorem d_K_finish_6 : decode (mC m_K_finish) 6 = .ok (.aload_n 2, 1) := by decide +kernel
theorem d_K_finish_7 : decode (mC m_K_finish) 7 = .ok (.getfield 399, 3) := by decide +kernel
theorem d_K_finish_10 : decode (mC m_K_finish) 10 = .ok (.ifCond .eq (21), 3) := by decide +kernel
theorem d_K_finish_13 : decode (mC m_K_finish) 13 = .ok (.aload_n 0, 1) := by decide +kernel
theorem d_K_finish_14 : decode (mC m_K_finish) 14 = .ok (.getfield 92, 3) := by decide +kernel
theorem d_K_finish_17 : decode (mC m_K_finish) 17 = .ok (.aload_n 2, 1) := by decide +kernel
theorem d_K_finish_18 : decode (mC m_K_finish) 18 = .ok (.getfield 413, 3) := by decide +kernel
theorem d_K_finish_21 : decode (mC m_K_finish) 21 = .ok (.isub, 1) := by decide +kernel
theorem d_K_finish_22 : decode (mC m_K_finish) 22 = .ok (.bipush (60), 2) := by decide +kernel
theorem d_K_finish_24 : decode (mC m_K_finish) 24 = .ok (.if_icmp .lt (7), 3) := by decide +kernel
theorem d_K_finish_27 : decode (mC m_K_finish) 27 = .ok (.iconst 1, 1) := by decide +kernel
theorem d_K_finish_28 : decode (mC m_K_finish) 28 = .ok (.goto (4), 3) := by decide +kernel
theorem d_K_finish_31 : decode (mC m_K_finish) 31 = .ok (.iconst 0, 1) := by decide +kernel
theorem d_K_finish_32 : decode (mC m_K_finish) 32 = .ok (.invokestatic 96, 3) := by decide +kernel
theorem d_K_finish_35 : decode (mC m_K_finish) 35 = .ok (.aload_n 2, 1) := by decide +kernel
theorem d_K_finish_36 : decode (mC m_K_finish) 36 = .ok (.invokevirtual 410, 3) := by decide +kernel
theorem d_K_finish_39 : decode (mC m_K_finish) 39 = .ok (.iconst 2, 1) := by decide +kernel
theorem d_K_finish_40 : decode (mC m_K_finish) 40 = .ok (.if_icmp .lt (7), 3) := by decide +kernel
theorem d_K_finish_43 : decode (mC m_K_finish) 43 = .ok (.iconst 1, 1) := by decide +kernel
theorem d_K_finish_44 : decode (mC m_K_finish) 44 = .ok (.goto (4), 3) := by decide +kernel
theorem d_K_finish_47 : decode (mC m_K_finish) 47 = .ok (.iconst 0, 1) := by decide +kernel
theorem d_K_finish_48 : decode (mC m_K_finish) 48 = .ok (.invokestatic 96, 3) := by decide +kernel
theorem d_K_finish_51 : decode (mC m_K_finish) 51 = .ok (.aload_n 2, 1) := by decide +kernel
theorem d_K_finish_52 : decode (mC m_K_finish) 52 = .ok (.getfield 407, 3) := by decide +kernel
theorem d_K_finish_55 : decode (mC m_K_finish) 55 = .ok (.aload_n 2, 1) := by decide +kernel
theorem d_K_finish_56 : decode (mC m_K_finish) 56 = .ok (.getfield 402, 3) := by decide +kernel
theorem d_K_finish_59 : decode (mC m_K_finish) 59 = .ok (.invokevirtual 416, 3) := by decide +kernel
theorem d_K_finish_62 : decode (mC m_K_finish) 62 = .ok (.if_icmp .lt (7), 3) := by decide +kernel
theorem d_K_finish_65 : decode (mC m_K_finish) 65 = .ok (.iconst 1, 1) := by decide +kernel
theorem d_K_finish_66 : decode (mC m_K_finish) 66 = .ok (.goto (4), 3) := by decide +kernel
theorem d_K_finish_69 : decode (mC m_K_finish) 69 = .ok (.iconst 0, 1) := by decide +kernel
theorem d_K_finish_70 : decode (mC m_K_finish) 70 = .ok (.invokestatic 96, 3) := by decide +kernel
theorem d_K_finish_73 : decode (mC m_K_finish) 73 = .ok (.aload_n 2, 1) := by decide +kernel
theorem d_K_finish_74 : decode (mC m_K_finish) 74 = .ok (.iconst 0, 1) := by decide +kernel
theorem d_K_finish_75 : decode (mC m_K_finish) 75 = .ok (.putfield 399, 3) := by decide +kernel
theorem d_K_finish_78 : decode (mC m_K_finish) 78 = .ok (.aload_n 0, 1) := by decide +kernel
theorem d_K_finish_79 : decode (mC m_K_finish) 79 = .ok (.getfield 10, 3) := by decide +kernel
theorem d_K_finish_82 : decode (mC m_K_finish) 82 = .ok (.bipush (6), 2) := by decide +kernel
theorem d_K_finish_84 : decode (mC m_K_finish) 84 = .ok (.iload_n 1, 1) := by decide +kernel
theorem d_K_finish_85 : decode (mC m_K_finish) 85 = .ok (.aload_n 0, 1) := by decide +kernel
theorem d_K_finish_86 : decode (mC m_K_finish) 86 = .ok (.getfield 92, 3) := by decide +kernel
theorem d_K_finish_89 : decode (mC m_K_finish) 89 = .ok (.invokevirtual 351, 3) := by decide +kernel
theorem d_K_finish_92 : decode (mC m_K_finish) 92 = .ok (.aload_n 0, 1) := by decide +kernel
theorem d_K_finish_93 : decode (mC m_K_finish) 93 = .ok (.aload_n 2, 1) := by decide +kernel
theorem d_K_finish_94 : decode (mC m_K_finish) 94 = .ok (.getfield 402, 3) := by decide +kernel
theorem d_K_finish_97 : decode (mC m_K_finish) 97 = .ok (.invokevirtual 419, 3) := by decide +kernel
theorem d_K_finish_100 : decode (mC m_K_finish) 100 = .ok (.istore_n 3, 1) := by decide +kernel
theorem d_K_finish_101 : decode (mC m_K_finish) 101 = .ok (.aload_n 2, 1) := by decide +kernel
theorem d_K_finish_102 : decode (mC m_K_finish) 102 = .ok (.getfield 402, 3) := by decide +kernel
theorem d_K_finish_105 : decode (mC m_K_finish) 105 = .ok (.invokevirtual 423, 3) := by decide +kernel
theorem d_K_finish_108 : decode (mC m_K_finish) 108 = .ok (.aload_n 2, 1) := by decide +kernel
theorem d_K_finish_109 : decode (mC m_K_finish) 109 = .ok (.getfield 402, 3) := by decide +kernel
theorem d_K_finish_112 : decode (mC m_K_finish) 112 = .ok (.iconst 0, 1) := by decide +kernel
theorem d_K_finish_113 : decode (mC m_K_finish) 113 = .ok (.invokevirtual 120, 3) := by decide +kernel
theorem d_K_finish_116 : decode (mC m_K_finish) 116 = .ok (.iload_n 3, 1) := by decide +kernel
theorem d_K_finish_117 : decode (mC m_K_finish) 117 = .ok (.ireturn, 1) := by decide +kernel
theorem d_W_finish_0 : decode (mC m_W_finish) 0 = .ok (.aload_n 2, 1) := by decide +kernel
theorem d_W_finish_1 : decode (mC m_W_finish) 1 = .ok (.iconst 0, 1) := by decide +kernel
theorem d_W_finish_2 : decode (mC m_W_finish) 2 = .ok (.aload_n 0, 1) := by decide +kernel
theorem d_W_finish_3 : decode (mC m_W_finish) 3 = .ok (.iload_n 1, 1) := by decide +kernel
theorem d_W_finish_4 : decode (mC m_W_finish) 4 = .ok (.invokevirtual 145, 3) := by decide +kernel
theorem d_W_finish_7 : decode (mC m_W_finish) 7 = .ok (.i2l, 1) := by decide +kernel
theorem d_W_finish_8 : decode (mC m_W_finish) 8 = .ok (.lastore, 1) := by decide +kernel
theorem d_W_finish_9 : decode (mC m_W_finish) 9 = .ok (.goto (9), 3) := by decide +kernel
theorem d_W_finish_12 : decode (mC m_W_finish) 12 = .ok (.astore_n 3, 1) := by decide +kernel
theorem d_W_finish_13 : decode (mC m_W_finish) 13 = .ok (.iconst 1, 1) := by decide +kernel
theorem d_W_finish_14 : decode (mC m_W_finish) 14 = .ok (.ireturn, 1) := by decide +kernel
theorem d_W_finish_15 : decode (mC m_W_finish) 15 = .ok (.astore_n 3, 1) := by decide +kernel
theorem d_W_finish_16 : decode (mC m_W_finish) 16 = .ok (.iconst 2, 1) := by decide +kernel
theorem d_W_finish_17 : decode (mC m_W_finish) 17 = .ok (.ireturn, 1) := by decide +kernel
theorem d_W_finish_18 : decode (mC m_W_finish) 18 = .ok (.iconst 0, 1) := by decide +kernel
theorem d_W_finish_19 : decode (mC m_W_finish) 19 = .ok (.ireturn, 1) := by decide +kernel
theorem d_M_weight_0 : decode (mC m_M_weight) 0 = .ok (.iload_n 0, 1) := by decide +kernel
theorem d_M_weight_1 : decode (mC m_M_weight) 1 = .ok (.iconst 1, 1) := by decide +kernel
theorem d_M_weight_2 : decode (mC m_M_weight) 2 = .ok (.iadd, 1) := by decide +kernel
theorem d_M_weight_3 : decode (mC m_M_weight) 3 = .ok (.ireturn, 1) := by decide +kernel
theorem d_M_endAllOf_0 : decode (mC m_M_endAllOf) 0 = .ok (.iconst 0, 1) := by decide +kernel
theorem d_M_endAllOf_1 : decode (mC m_M_endAllOf) 1 = .ok (.istore_n 2, 1) := by decide +kernel
theorem d_M_endAllOf_2 : decode (mC m_M_endAllOf) 2 = .ok (.iconst 0, 1) := by decide +kernel
theorem d_M_endAllOf_3 : decode (mC m_M_endAllOf) 3 = .ok (.istore_n 3, 1) := by decide +kernel
theorem d_M_endAllOf_4 : decode (mC m_M_endAllOf) 4 = .ok (.iload_n 3, 1) := by decide +kernel
theorem d_M_endAllOf_5 : decode (mC m_M_endAllOf) 5 = .ok (.aload_n 0, 1) := by decide +kernel
theorem d_M_endAllOf_6 : decode (mC m_M_endAllOf) 6 = .ok (.getfield 235, 3) := by decide +kernel
theorem d_M_endAllOf_9 : decode (mC m_M_endAllOf) 9 = .ok (.if_icmp .ge (40), 3) := by decide +kernel
theorem d_M_endAllOf_12 : decode (mC m_M_endAllOf) 12 = .ok (.iload_n 2, 1) := by decide +kernel
theorem d_M_endAllOf_13 : decode (mC m_M_endAllOf) 13 = .ok (.aload_n 0, 1) := by decide +kernel
theorem d_M_endAllOf_14 : decode (mC m_M_endAllOf) 14 = .ok (.getfield 104, 3) := by decide +kernel
theorem d_M_endAllOf_17 : decode (mC m_M_endAllOf) 17 = .ok (.iload_n 3, 1) := by decide +kernel
theorem d_M_endAllOf_18 : decode (mC m_M_endAllOf) 18 = .ok (.baload, 1) := by decide +kernel
theorem d_M_endAllOf_19 : decode (mC m_M_endAllOf) 19 = .ok (.ifCond .eq (21), 3) := by decide +kernel
theorem d_M_endAllOf_22 : decode (mC m_M_endAllOf) 22 = .ok (.aload_n 0, 1) := by decide +kernel
theorem d_M_endAllOf_23 : decode (mC m_M_endAllOf) 23 = .ok (.getfield 92, 3) := by decide +kernel
theorem d_M_endAllOf_26 : decode (mC m_M_endAllOf) 26 = .ok (.iload_n 3, 1) := by decide +kernel
theorem d_M_endAllOf_27 : decode (mC m_M_endAllOf) 27 = .ok (.iaload, 1) := by decide +kernel
theorem d_M_endAllOf_28 : decode (mC m_M_endAllOf) 28 = .ok (.iload_n 1, 1) := by decide +kernel
theorem d_M_endAllOf_29 : decode (mC m_M_endAllOf) 29 = .ok (.if_icmp .ne (11), 3) := by decide +kernel
theorem d_M_endAllOf_32 : decode (mC m_M_endAllOf) 32 = .ok (.aload_n 0, 1) := by decide +kernel
theorem d_M_endAllOf_33 : decode (mC m_M_endAllOf) 33 = .ok (.iload_n 3, 1) := by decide +kernel
theorem d_M_endAllOf_34 : decode (mC m_M_endAllOf) 34 = .ok (.invokevirtual 270, 3) := by decide +kernel
theorem d_M_endAllOf_37 : decode (mC m_M_endAllOf) 37 = .ok (.goto (4), 3) := by decide +kernel
theorem d_M_endAllOf_40 : decode (mC m_M_endAllOf) 40 = .ok (.iconst 0, 1) := by decide +kernel
theorem d_M_endAllOf_41 : decode (mC m_M_endAllOf) 41 = .ok (.iadd, 1) := by decide +kernel
theorem d_M_endAllOf_42 : decode (mC m_M_endAllOf) 42 = .ok (.istore_n 2, 1) := by decide +kernel
theorem d_M_endAllOf_43 : decode (mC m_M_endAllOf) 43 = .ok (.iinc 3 (1), 3) := by decide +kernel
theorem d_M_endAllOf_46 : decode (mC m_M_endAllOf) 46 = .ok (.goto (-42), 3) := by decide +kernel
theorem d_M_endAllOf_49 : decode (mC m_M_endAllOf) 49 = .ok (.iload_n 2, 1) := by decide +kernel
theorem d_M_endAllOf_50 : decode (mC m_M_endAllOf) 50 = .ok (.ireturn, 1) := by decide +kernel
theorem d_M_finish_0 : decode (mC m_M_finish) 0 = .ok (.aload_n 0, 1) := by decide +kernel
theorem d_M_finish_1 : decode (mC m_M_finish) 1 = .ok (.iload_n 1, 1) := by decide +kernel
theorem d_M_finish_2 : decode (mC m_M_finish) 2 = .ok (.invokevirtual 383, 3) := by decide +kernel
theorem d_M_finish_5 : decode (mC m_M_finish) 5 = .ok (.istore_n 2, 1) := by decide +kernel
theorem d_M_finish_6 : decode (mC m_M_finish) 6 = .ok (.iload_n 2, 1) := by decide +kernel
theorem d_M_finish_7 : decode (mC m_M_finish) 7 = .ok (.ifCond .eq (45), 3) := by decide +kernel
theorem d_M_finish_10 : decode (mC m_M_finish) 10 = .ok (.aload_n 0, 1) := by decide +kernel
theorem d_M_finish_11 : decode (mC m_M_finish) 11 = .ok (.getfield 201, 3) := by decide +kernel
theorem d_M_finish_14 : decode (mC m_M_finish) 14 = .ok (.iload_n 1, 1) := by decide +kernel
theorem d_M_finish_15 : decode (mC m_M_finish) 15 = .ok (.baload, 1) := by decide +kernel
theorem d_M_finish_16 : decode (mC m_M_finish) 16 = .ok (.ifCond .eq (36), 3) := by decide +kernel
theorem d_M_finish_19 : decode (mC m_M_finish) 19 = .ok (.aload_n 0, 1) := by decide +kernel
theorem d_M_finish_20 : decode (mC m_M_finish) 20 = .ok (.getfield 247, 3) := by decide +kernel
theorem d_M_finish_23 : decode (mC m_M_finish) 23 = .ok (.aload_n 0, 1) := by decide +kernel
theorem d_M_finish_24 : decode (mC m_M_finish) 24 = .ok (.getfield 198, 3) := by decide +kernel
theorem d_M_finish_27 : decode (mC m_M_finish) 27 = .ok (.iload_n 1, 1) := by decide +kernel
theorem d_M_finish_28 : decode (mC m_M_finish) 28 = .ok (.iaload, 1) := by decide +kernel
theorem d_M_finish_29 : decode (mC m_M_finish) 29 = .ok (.isub, 1) := by decide +kernel
theorem d_M_finish_30 : decode (mC m_M_finish) 30 = .ok (.bipush (60), 2) := by decide +kernel
theorem d_M_finish_32 : decode (mC m_M_finish) 32 = .ok (.if_icmp .lt (20), 3) := by decide +kernel
theorem d_M_finish_35 : decode (mC m_M_finish) 35 = .ok (.aload_n 0, 1) := by decide +kernel
theorem d_M_finish_36 : decode (mC m_M_finish) 36 = .ok (.getfield 204, 3) := by decide +kernel
theorem d_M_finish_39 : decode (mC m_M_finish) 39 = .ok (.iload_n 1, 1) := by decide +kernel
theorem d_M_finish_40 : decode (mC m_M_finish) 40 = .ok (.iaload, 1) := by decide +kernel
theorem d_M_finish_41 : decode (mC m_M_finish) 41 = .ok (.invokestatic 389, 3) := by decide +kernel
theorem d_M_finish_44 : decode (mC m_M_finish) 44 = .ok (.iconst 2, 1) := by decide +kernel
theorem d_M_finish_45 : decode (mC m_M_finish) 45 = .ok (.if_icmp .lt (7), 3) := by decide +kernel
theorem d_M_finish_48 : decode (mC m_M_finish) 48 = .ok (.iconst 1, 1) := by decide +kernel
theorem d_M_finish_49 : decode (mC m_M_finish) 49 = .ok (.goto (4), 3) := by decide +kernel
theorem d_M_finish_52 : decode (mC m_M_finish) 52 = .ok (.iconst 0, 1) := by decide +kernel
theorem d_M_finish_53 : decode (mC m_M_finish) 53 = .ok (.istore_n 3, 1) := by decide +kernel
theorem d_M_finish_54 : decode (mC m_M_finish) 54 = .ok (.iconst 0, 1) := by decide +kernel
theorem d_M_finish_55 : decode (mC m_M_finish) 55 = .ok (.istore 4, 2) := by decide +kernel
theorem d_M_finish_57 : decode (mC m_M_finish) 57 = .ok (.iconst 0, 1) := by decide +kernel
theorem d_M_finish_58 : decode (mC m_M_finish) 58 = .ok (.istore 5, 2) := by decide +kernel
theorem d_M_finish_60 : decode (mC m_M_finish) 60 = .ok (.iload 5, 2) := by decide +kernel
theorem d_M_finish_62 : decode (mC m_M_finish) 62 = .ok (.iconst 3, 1) := by decide +kernel
theorem d_M_finish_63 : decode (mC m_M_finish) 63 = .ok (.if_icmp .ge (46), 3) := by decide +kernel
theorem d_M_finish_66 : decode (mC m_M_finish) 66 = .ok (.iload_n 2, 1) := by decide +kernel
theorem d_M_finish_67 : decode (mC m_M_finish) 67 = .ok (.ifCond .eq (42), 3) := by decide +kernel
theorem d_M_finish_70 : decode (mC m_M_finish) 70 = .ok (.iload 4, 2) := by decide +kernel
theorem d_M_finish_72 : decode (mC m_M_finish) 72 = .ok (.aload_n 0, 1) := by decide +kernel
theorem d_M_finish_73 : decode (mC m_M_finish) 73 = .ok (.getfield 7, 3) := by decide +kernel
theorem d_M_finish_76 : decode (mC m_M_finish) 76 = .ok (.iconst 3, 1) := by decide +kernel
theorem d_M_finish_77 : decode (mC m_M_finish) 77 = .ok (.aload_n 0, 1) := by decide +kernel
theorem d_M_finish_78 : decode (mC m_M_finish) 78 = .ok (.getfield 195, 3) := by decide +kernel
theorem d_M_finish_81 : decode (mC m_M_finish) 81 = .ok (.iload_n 1, 1) := by decide +kernel
theorem d_M_finish_82 : decode (mC m_M_finish) 82 = .ok (.iaload, 1) := by decide +kernel
theorem d_M_finish_83 : decode (mC m_M_finish) 83 = .ok (.imul, 1) := by decide +kernel
theorem d_M_finish_84 : decode (mC m_M_finish) 84 = .ok (.iload 5, 2) := by decide +kernel
theorem d_M_finish_86 : decode (mC m_M_finish) 86 = .ok (.iadd, 1) := by decide +kernel
theorem d_M_finish_87 : decode (mC m_M_finish) 87 = .ok (.iaload, 1) := by decide +kernel
theorem d_M_finish_88 : decode (mC m_M_finish) 88 = .ok (.ifCond .eq (11), 3) := by decide +kernel
theorem d_M_finish_91 : decode (mC m_M_finish) 91 = .ok (.iload 5, 2) := by decide +kernel
theorem d_M_finish_93 : decode (mC m_M_finish) 93 = .ok (.invokestatic 392, 3) := by decide +kernel
theorem d_M_finish_96 : decode (mC m_M_finish) 96 = .ok (.goto (4), 3) := by decide +kernel
theorem d_M_finish_99 : decode (mC m_M_finish) 99 = .ok (.iconst 0, 1) := by decide +kernel
theorem d_M_finish_100 : decode (mC m_M_finish) 100 = .ok (.iadd, 1) := by decide +kernel
theorem d_M_finish_101 : decode (mC m_M_finish) 101 = .ok (.istore 4, 2) := by decide +kernel
theorem d_M_finish_103 : decode (mC m_M_finish) 103 = .ok (.iinc 5 (1), 3) := by decide +kernel
theorem d_M_finish_106 : decode (mC m_M_finish) 106 = .ok (.goto (-46), 3) := by decide +kernel
theorem d_M_finish_109 : decode (mC m_M_finish) 109 = .ok (.aload_n 0, 1) := by decide +kernel
theorem d_M_finish_110 : decode (mC m_M_finish) 110 = .ok (.iload_n 2, 1) := by decide +kernel
theorem d_M_finish_111 : decode (mC m_M_finish) 111 = .ok (.iload_n 3, 1) := by decide +kernel
theorem d_M_finish_112 : decode (mC m_M_finish) 112 = .ok (.ifCond .eq (18), 3) := by decide +kernel
theorem d_M_finish_115 : decode (mC m_M_finish) 115 = .ok (.aload_n 0, 1) := by decide +kernel
theorem d_M_finish_116 : decode (mC m_M_finish) 116 = .ok (.getfield 207, 3) := by decide +kernel
theorem d_M_finish_119 : decode (mC m_M_finish) 119 = .ok (.iload_n 1, 1) := by decide +kernel
theorem d_M_finish_120 : decode (mC m_M_finish) 120 = .ok (.iaload, 1) := by decide +kernel
theorem d_M_finish_121 : decode (mC m_M_finish) 121 = .ok (.iload 4, 2) := by decide +kernel
theorem d_M_finish_123 : decode (mC m_M_finish) 123 = .ok (.if_icmp .lt (7), 3) := by decide +kernel
theorem d_M_finish_126 : decode (mC m_M_finish) 126 = .ok (.iconst 1, 1) := by decide +kernel
theorem d_M_finish_127 : decode (mC m_M_finish) 127 = .ok (.goto (4), 3) := by decide +kernel
theorem d_M_finish_130 : decode (mC m_M_finish) 130 = .ok (.iconst 0, 1) := by decide +kernel
theorem d_M_finish_131 : decode (mC m_M_finish) 131 = .ok (.invokevirtual 274, 3) := by decide +kernel
theorem d_M_finish_134 : decode (mC m_M_finish) 134 = .ok (.ifCond .ne (5), 3) := by decide +kernel
theorem d_M_finish_137 : decode (mC m_M_finish) 137 = .ok (.iconst 0, 1) := by decide +kernel
theorem d_M_finish_138 : decode (mC m_M_finish) 138 = .ok (.ireturn, 1) := by decide +kernel
theorem d_M_finish_139 : decode (mC m_M_finish) 139 = .ok (.aload_n 0, 1) := by decide +kernel
theorem d_M_finish_140 : decode (mC m_M_finish) 140 = .ok (.getfield 195, 3) := by decide +kernel
theorem d_M_finish_143 : decode (mC m_M_finish) 143 = .ok (.iload_n 1, 1) := by decide +kernel
theorem d_M_finish_144 : decode (mC m_M_finish) 144 = .ok (.iaload, 1) := by decide +kernel
theorem d_M_finish_145 : decode (mC m_M_finish) 145 = .ok (.istore 5, 2) := by decide +kernel
theorem d_M_finish_147 : decode (mC m_M_finish) 147 = .ok (.aload_n 0, 1) := by decide +kernel
theorem d_M_finish_148 : decode (mC m_M_finish) 148 = .ok (.getfield 201, 3) := by decide +kernel
theorem d_M_finish_151 : decode (mC m_M_finish) 151 = .ok (.iload_n 1, 1) := by decide +kernel
theorem d_M_finish_152 : decode (mC m_M_finish) 152 = .ok (.iconst 0, 1) := by decide +kernel
theorem d_M_finish_153 : decode (mC m_M_finish) 153 = .ok (.bastore, 1) := by decide +kernel
theorem d_M_finish_154 : decode (mC m_M_finish) 154 = .ok (.aload_n 0, 1) := by decide +kernel
theorem d_M_finish_155 : decode (mC m_M_finish) 155 = .ok (.iload 5, 2) := by decide +kernel
theorem d_M_finish_157 : decode (mC m_M_finish) 157 = .ok (.invokevirtual 395, 3) := by decide +kernel
theorem d_M_finish_160 : decode (mC m_M_finish) 160 = .ok (.istore 6, 2) := by decide +kernel
theorem d_M_finish_162 : decode (mC m_M_finish) 162 = .ok (.iconst 0, 1) := by decide +kernel
theorem d_M_finish_163 : decode (mC m_M_finish) 163 = .ok (.istore 7, 2) := by decide +kernel
theorem d_M_finish_165 : decode (mC m_M_finish) 165 = .ok (.iload 7, 2) := by decide +kernel
theorem d_M_finish_167 : decode (mC m_M_finish) 167 = .ok (.iconst 3, 1) := by decide +kernel
theorem d_M_finish_168 : decode (mC m_M_finish) 168 = .ok (.if_icmp .ge (22), 3) := by decide +kernel
theorem d_M_finish_171 : decode (mC m_M_finish) 171 = .ok (.aload_n 0, 1) := by decide +kernel
theorem d_M_finish_172 : decode (mC m_M_finish) 172 = .ok (.getfield 7, 3) := by decide +kernel
theorem d_M_finish_175 : decode (mC m_M_finish) 175 = .ok (.iconst 3, 1) := by decide +kernel
theorem d_M_finish_176 : decode (mC m_M_finish) 176 = .ok (.iload 5, 2) := by decide +kernel
theorem d_M_finish_178 : decode (mC m_M_finish) 178 = .ok (.imul, 1) := by decide +kernel
theorem d_M_finish_179 : decode (mC m_M_finish) 179 = .ok (.iload 7, 2) := by decide +kernel
theorem d_M_finish_181 : decode (mC m_M_finish) 181 = .ok (.iadd, 1) := by decide +kernel
theorem d_M_finish_182 : decode (mC m_M_finish) 182 = .ok (.iconst 0, 1) := by decide +kernel
theorem d_M_finish_183 : decode (mC m_M_finish) 183 = .ok (.iastore, 1) := by decide +kernel
theorem d_M_finish_184 : decode (mC m_M_finish) 184 = .ok (.iinc 7 (1), 3) := by decide +kernel
theorem d_M_finish_187 : decode (mC m_M_finish) 187 = .ok (.goto (-22), 3) := by decide +kernel
theorem d_M_finish_190 : decode (mC m_M_finish) 190 = .ok (.aload_n 0, 1) := by decide +kernel
theorem d_M_finish_191 : decode (mC m_M_finish) 191 = .ok (.iload 5, 2) := by decide +kernel
theorem d_M_finish_193 : decode (mC m_M_finish) 193 = .ok (.iconst 0, 1) := by decide +kernel
theorem d_M_finish_194 : decode (mC m_M_finish) 194 = .ok (.invokevirtual 291, 3) := by decide +kernel
theorem d_M_finish_197 : decode (mC m_M_finish) 197 = .ok (.aload_n 0, 1) := by decide +kernel
theorem d_M_finish_198 : decode (mC m_M_finish) 198 = .ok (.bipush (6), 2) := by decide +kernel
theorem d_M_finish_200 : decode (mC m_M_finish) 200 = .ok (.iload_n 1, 1) := by decide +kernel
theorem d_M_finish_201 : decode (mC m_M_finish) 201 = .ok (.invokevirtual 255, 3) := by decide +kernel
theorem d_M_finish_204 : decode (mC m_M_finish) 204 = .ok (.iload 6, 2) := by decide +kernel
theorem d_M_finish_206 : decode (mC m_M_finish) 206 = .ok (.ireturn, 1) := by decide +kernel
theorem d_K_link_0 : decode (mC m_K_link) 0 = .ok (.iload_n 1, 1) := by decide +kernel
theorem d_K_link_1 : decode (mC m_K_link) 1 = .ok (.aload_n 0, 1) := by decide +kernel
theorem d_K_link_2 : decode (mC m_K_link) 2 = .ok (.getfield 77, 3) := by decide +kernel
theorem d_K_link_5 : decode (mC m_K_link) 5 = .ok (.arraylength, 1) := by decide +kernel
theorem d_K_link_6 : decode (mC m_K_link) 6 = .ok (.invokestatic 148, 3) := by decide +kernel
theorem d_K_link_9 : decode (mC m_K_link) 9 = .ok (.iload_n 2, 1) := by decide +kernel
theorem d_K_link_10 : decode (mC m_K_link) 10 = .ok (.iconst (-1), 1) := by decide +kernel
theorem d_K_link_11 : decode (mC m_K_link) 11 = .ok (.if_icmp .eq (9), 3) := by decide +kernel
theorem d_K_link_14 : decode (mC m_K_link) 14 = .ok (.iload_n 2, 1) := by decide +kernel
theorem d_K_link_15 : decode (mC m_K_link) 15 = .ok (.bipush (6), 2) := by decide +kernel
theorem d_K_link_17 : decode (mC m_K_link) 17 = .ok (.invokestatic 148, 3) := by decide +kernel
theorem d_K_link_20 : decode (mC m_K_link) 20 = .ok (.aload_n 0, 1) := by decide +kernel
theorem d_K_link_21 : decode (mC m_K_link) 21 = .ok (.getfield 77, 3) := by decide +kernel
theorem d_K_link_24 : decode (mC m_K_link) 24 = .ok (.iload_n 1, 1) := by decide +kernel
theorem d_K_link_25 : decode (mC m_K_link) 25 = .ok (.iaload, 1) := by decide +kernel
theorem d_K_link_26 : decode (mC m_K_link) 26 = .ok (.istore_n 3, 1) := by decide +kernel
theorem d_K_link_27 : decode (mC m_K_link) 27 = .ok (.iload_n 2, 1) := by decide +kernel
theorem d_K_link_28 : decode (mC m_K_link) 28 = .ok (.iconst (-1), 1) := by decide +kernel
theorem d_K_link_29 : decode (mC m_K_link) 29 = .ok (.if_icmp .eq (13), 3) := by decide +kernel
theorem d_K_link_32 : decode (mC m_K_link) 32 = .ok (.iload_n 3, 1) := by decide +kernel
theorem d_K_link_33 : decode (mC m_K_link) 33 = .ok (.iconst (-1), 1) := by decide +kernel
theorem d_K_link_34 : decode (mC m_K_link) 34 = .ok (.if_icmp .eq (8), 3) := by decide +kernel
theorem d_K_link_37 : decode (mC m_K_link) 37 = .ok (.iload_n 3, 1) := by decide +kernel
theorem d_K_link_38 : decode (mC m_K_link) 38 = .ok (.iload_n 2, 1) := by decide +kernel
theorem d_K_link_39 : decode (mC m_K_link) 39 = .ok (.if_icmp .ne (7), 3) := by decide +kernel
theorem d_K_link_42 : decode (mC m_K_link) 42 = .ok (.iconst 1, 1) := by decide +kernel
theorem d_K_link_43 : decode (mC m_K_link) 43 = .ok (.goto (4), 3) := by decide +kernel
theorem d_K_link_46 : decode (mC m_K_link) 46 = .ok (.iconst 0, 1) := by decide +kernel
theorem d_K_link_47 : decode (mC m_K_link) 47 = .ok (.invokestatic 96, 3) := by decide +kernel
theorem d_K_link_50 : decode (mC m_K_link) 50 = .ok (.aload_n 0, 1) := by decide +kernel
theorem d_K_link_51 : decode (mC m_K_link) 51 = .ok (.getfield 77, 3) := by decide +kernel
theorem d_K_link_54 : decode (mC m_K_link) 54 = .ok (.iload_n 1, 1) := by decide +kernel
theorem d_K_link_55 : decode (mC m_K_link) 55 = .ok (.iload_n 2, 1) := by decide +kernel
theorem d_K_link_56 : decode (mC m_K_link) 56 = .ok (.iastore, 1) := by decide +kernel
theorem d_K_link_57 : decode (mC m_K_link) 57 = .ok (.iload_n 3, 1) := by decide +kernel
theorem d_K_link_58 : decode (mC m_K_link) 58 = .ok (.ireturn, 1) := by decide +kernel
theorem d_W_link_0 : decode (mC m_W_link) 0 = .ok (.aload_n 3, 1) := by decide +kernel
theorem d_W_link_1 : decode (mC m_W_link) 1 = .ok (.iconst 0, 1) := by decide +kernel
theorem d_W_link_2 : decode (mC m_W_link) 2 = .ok (.aload_n 0, 1) := by decide +kernel
theorem d_W_link_3 : decode (mC m_W_link) 3 = .ok (.iload_n 1, 1) := by decide +kernel
theorem d_W_link_4 : decode (mC m_W_link) 4 = .ok (.iload_n 2, 1) := by decide +kernel
theorem d_W_link_5 : decode (mC m_W_link) 5 = .ok (.invokevirtual 148, 3) := by decide +kernel
theorem d_W_link_8 : decode (mC m_W_link) 8 = .ok (.i2l, 1) := by decide +kernel
theorem d_W_link_9 : decode (mC m_W_link) 9 = .ok (.lastore, 1) := by decide +kernel
theorem d_W_link_10 : decode (mC m_W_link) 10 = .ok (.goto (11), 3) := by decide +kernel
theorem d_W_link_13 : decode (mC m_W_link) 13 = .ok (.astore 4, 2) := by decide +kernel
theorem d_W_link_15 : decode (mC m_W_link) 15 = .ok (.iconst 1, 1) := by decide +kernel
theorem d_W_link_16 : decode (mC m_W_link) 16 = .ok (.ireturn, 1) := by decide +kernel
theorem d_W_link_17 : decode (mC m_W_link) 17 = .ok (.astore 4, 2) := by decide +kernel
theorem d_W_link_19 : decode (mC m_W_link) 19 = .ok (.iconst 2, 1) := by decide +kernel
theorem d_W_link_20 : decode (mC m_W_link) 20 = .ok (.ireturn, 1) := by decide +kernel
theorem d_W_link_21 : decode (mC m_W_link) 21 = .ok (.iconst 0, 1) := by decide +kernel
theorem d_W_link_22 : decode (mC m_W_link) 22 = .ok (.ireturn, 1) := by decide +kernel
theorem d_M_link_0 : decode (mC m_M_link) 0 = .ok (.iload_n 1, 1) := by decide +kernel
theorem d_M_link_1 : decode (mC m_M_link) 1 = .ok (.invokestatic 284, 3) := by decide +kernel
theorem d_M_link_4 : decode (mC m_M_link) 4 = .ok (.ifCond .eq (16), 3) := by decide +kernel
theorem d_M_link_7 : decode (mC m_M_link) 7 = .ok (.iload_n 2, 1) := by decide +kernel
theorem d_M_link_8 : decode (mC m_M_link) 8 = .ok (.iconst (-1), 1) := by decide +kernel
theorem d_M_link_9 : decode (mC m_M_link) 9 = .ok (.iconst 5, 1) := by decide +kernel
theorem d_M_link_10 : decode (mC m_M_link) 10 = .ok (.invokestatic 228, 3) := by decide +kernel
theorem d_M_link_13 : decode (mC m_M_link) 13 = .ok (.ifCond .eq (7), 3) := by decide +kernel
theorem d_M_link_16 : decode (mC m_M_link) 16 = .ok (.iconst 1, 1) := by decide +kernel
theorem d_M_link_17 : decode (mC m_M_link) 17 = .ok (.goto (4), 3) := by decide +kernel
theorem d_M_link_20 : decode (mC m_M_link) 20 = .ok (.iconst 0, 1) := by decide +kernel
theorem d_M_link_21 : decode (mC m_M_link) 21 = .ok (.istore_n 3, 1) := by decide +kernel
theorem d_M_link_22 : decode (mC m_M_link) 22 = .ok (.aload_n 0, 1) := by decide +kernel
theorem d_M_link_23 : decode (mC m_M_link) 23 = .ok (.iload_n 3, 1) := by decide +kernel
theorem d_M_link_24 : decode (mC m_M_link) 24 = .ok (.iload_n 3, 1) := by decide +kernel
theorem d_M_link_25 : decode (mC m_M_link) 25 = .ok (.ifCond .eq (32), 3) := by decide +kernel
theorem d_M_link_28 : decode (mC m_M_link) 28 = .ok (.iload_n 2, 1) := by decide +kernel
theorem d_M_link_29 : decode (mC m_M_link) 29 = .ok (.iconst (-1), 1) := by decide +kernel
theorem d_M_link_30 : decode (mC m_M_link) 30 = .ok (.if_icmp .eq (23), 3) := by decide +kernel
theorem d_M_link_33 : decode (mC m_M_link) 33 = .ok (.aload_n 0, 1) := by decide +kernel
theorem d_M_link_34 : decode (mC m_M_link) 34 = .ok (.getfield 210, 3) := by decide +kernel
theorem d_M_link_37 : decode (mC m_M_link) 37 = .ok (.iload_n 1, 1) := by decide +kernel
theorem d_M_link_38 : decode (mC m_M_link) 38 = .ok (.iaload, 1) := by decide +kernel
theorem d_M_link_39 : decode (mC m_M_link) 39 = .ok (.iconst (-1), 1) := by decide +kernel
theorem d_M_link_40 : decode (mC m_M_link) 40 = .ok (.if_icmp .eq (13), 3) := by decide +kernel
theorem d_M_link_43 : decode (mC m_M_link) 43 = .ok (.aload_n 0, 1) := by decide +kernel
theorem d_M_link_44 : decode (mC m_M_link) 44 = .ok (.getfield 210, 3) := by decide +kernel
theorem d_M_link_47 : decode (mC m_M_link) 47 = .ok (.iload_n 1, 1) := by decide +kernel
theorem d_M_link_48 : decode (mC m_M_link) 48 = .ok (.iaload, 1) := by decide +kernel
theorem d_M_link_49 : decode (mC m_M_link) 49 = .ok (.iload_n 2, 1) := by decide +kernel
theorem d_M_link_50 : decode (mC m_M_link) 50 = .ok (.if_icmp .ne (7), 3) := by decide +kernel
theorem d_M_link_53 : decode (mC m_M_link) 53 = .ok (.iconst 1, 1) := by decide +kernel
theorem d_M_link_54 : decode (mC m_M_link) 54 = .ok (.goto (4), 3) := by decide +kernel
theorem d_M_link_57 : decode (mC m_M_link) 57 = .ok (.iconst 0, 1) := by decide +kernel
theorem d_M_link_58 : decode (mC m_M_link) 58 = .ok (.invokevirtual 274, 3) := by decide +kernel
theorem d_M_link_61 : decode (mC m_M_link) 61 = .ok (.ifCond .ne (5), 3) := by decide +kernel
theorem d_M_link_64 : decode (mC m_M_link) 64 = .ok (.iconst 0, 1) := by decide +kernel
theorem d_M_link_65 : decode (mC m_M_link) 65 = .ok (.ireturn, 1) := by decide +kernel
theorem d_M_link_66 : decode (mC m_M_link) 66 = .ok (.aload_n 0, 1) := by decide +kernel
theorem d_M_link_67 : decode (mC m_M_link) 67 = .ok (.getfield 210, 3) := by decide +kernel
theorem d_M_link_70 : decode (mC m_M_link) 70 = .ok (.iload_n 1, 1) := by decide +kernel
theorem d_M_link_71 : decode (mC m_M_link) 71 = .ok (.iaload, 1) := by decide +kernel
theorem d_M_link_72 : decode (mC m_M_link) 72 = .ok (.istore 4, 2) := by decide +kernel
theorem d_M_link_74 : decode (mC m_M_link) 74 = .ok (.aload_n 0, 1) := by decide +kernel
theorem d_M_link_75 : decode (mC m_M_link) 75 = .ok (.getfield 210, 3) := by decide +kernel
theorem d_M_link_78 : decode (mC m_M_link) 78 = .ok (.iload_n 1, 1) := by decide +kernel
theorem d_M_link_79 : decode (mC m_M_link) 79 = .ok (.iload_n 2, 1) := by decide +kernel
theorem d_M_link_80 : decode (mC m_M_link) 80 = .ok (.iastore, 1) := by decide +kernel
theorem d_M_link_81 : decode (mC m_M_link) 81 = .ok (.iload 4, 2) := by decide +kernel
theorem d_M_link_83 : decode (mC m_M_link) 83 = .ok (.ireturn, 1) := by decide +kernel
theorem d_K_foreign_0 : decode (mC m_K_foreign) 0 = .ok (.iload_n 1, 1) := by decide +kernel
theorem d_K_foreign_1 : decode (mC m_K_foreign) 1 = .ok (.aload_n 0, 1) := by decide +kernel
theorem d_K_foreign_2 : decode (mC m_K_foreign) 2 = .ok (.getfield 77, 3) := by decide +kernel
theorem d_K_foreign_5 : decode (mC m_K_foreign) 5 = .ok (.arraylength, 1) := by decide +kernel
theorem d_K_foreign_6 : decode (mC m_K_foreign) 6 = .ok (.invokestatic 148, 3) := by decide +kernel
theorem d_K_foreign_9 : decode (mC m_K_foreign) 9 = .ok (.aload_n 0, 1) := by decide +kernel
theorem d_K_foreign_10 : decode (mC m_K_foreign) 10 = .ok (.getfield 77, 3) := by decide +kernel
theorem d_K_foreign_13 : decode (mC m_K_foreign) 13 = .ok (.iload_n 1, 1) := by decide +kernel
theorem d_K_foreign_14 : decode (mC m_K_foreign) 14 = .ok (.iaload, 1) := by decide +kernel
theorem d_K_foreign_15 : decode (mC m_K_foreign) 15 = .ok (.istore_n 2, 1) := by decide +kernel
theorem d_K_foreign_16 : decode (mC m_K_foreign) 16 = .ok (.iload_n 2, 1) := by decide +kernel
theorem d_K_foreign_17 : decode (mC m_K_foreign) 17 = .ok (.iconst (-1), 1) := by decide +kernel
theorem d_K_foreign_18 : decode (mC m_K_foreign) 18 = .ok (.if_icmp .eq (19), 3) := by decide +kernel
theorem d_K_foreign_21 : decode (mC m_K_foreign) 21 = .ok (.aload_n 0, 1) := by decide +kernel
theorem d_K_foreign_22 : decode (mC m_K_foreign) 22 = .ok (.getfield 46, 3) := by decide +kernel
theorem d_K_foreign_25 : decode (mC m_K_foreign) 25 = .ok (.invokevirtual 134, 3) := by decide +kernel
theorem d_K_foreign_28 : decode (mC m_K_foreign) 28 = .ok (.bipush (60), 2) := by decide +kernel
theorem d_K_foreign_30 : decode (mC m_K_foreign) 30 = .ok (.if_icmp .ge (7), 3) := by decide +kernel
theorem d_K_foreign_33 : decode (mC m_K_foreign) 33 = .ok (.iconst 1, 1) := by decide +kernel
theorem d_K_foreign_34 : decode (mC m_K_foreign) 34 = .ok (.goto (4), 3) := by decide +kernel
theorem d_K_foreign_37 : decode (mC m_K_foreign) 37 = .ok (.iconst 0, 1) := by decide +kernel
theorem d_K_foreign_38 : decode (mC m_K_foreign) 38 = .ok (.invokestatic 96, 3) := by decide +kernel
theorem d_K_foreign_41 : decode (mC m_K_foreign) 41 = .ok (.aload_n 0, 1) := by decide +kernel
theorem d_K_foreign_42 : decode (mC m_K_foreign) 42 = .ok (.iload_n 2, 1) := by decide +kernel
theorem d_K_foreign_43 : decode (mC m_K_foreign) 43 = .ok (.invokevirtual 108, 3) := by decide +kernel
theorem d_K_foreign_46 : decode (mC m_K_foreign) 46 = .ok (.astore_n 3, 1) := by decide +kernel
theorem d_K_foreign_47 : decode (mC m_K_foreign) 47 = .ok (.aload_n 3, 1) := by decide +kernel
theorem d_K_foreign_48 : decode (mC m_K_foreign) 48 = .ok (.getfield 162, 3) := by decide +kernel
theorem d_K_foreign_51 : decode (mC m_K_foreign) 51 = .ok (.ifCond .ne (7), 3) := by decide +kernel
theorem d_K_foreign_54 : decode (mC m_K_foreign) 54 = .ok (.iconst 1, 1) := by decide +kernel
theorem d_K_foreign_55 : decode (mC m_K_foreign) 55 = .ok (.goto (4), 3) := by decide +kernel
theorem d_K_foreign_58 : decode (mC m_K_foreign) 58 = .ok (.iconst 0, 1) := by decide +kernel
theorem d_K_foreign_59 : decode (mC m_K_foreign) 59 = .ok (.invokestatic 96, 3) := by decide +kernel
theorem d_K_foreign_62 : decode (mC m_K_foreign) 62 = .ok (.aload_n 0, 1) := by decide +kernel
theorem d_K_foreign_63 : decode (mC m_K_foreign) 63 = .ok (.aload_n 3, 1) := by decide +kernel
theorem d_K_foreign_64 : decode (mC m_K_foreign) 64 = .ok (.aconst_null, 1) := by decide +kernel
theorem d_K_foreign_65 : decode (mC m_K_foreign) 65 = .ok (.new 238, 3) := by decide +kernel
theorem d_K_foreign_68 : decode (mC m_K_foreign) 68 = .ok (.dup, 1) := by decide +kernel
theorem d_K_foreign_69 : decode (mC m_K_foreign) 69 = .ok (.invokespecial 426, 3) := by decide +kernel
theorem d_K_foreign_72 : decode (mC m_K_foreign) 72 = .ok (.invokevirtual 249, 3) := by decide +kernel
theorem d_K_foreign_75 : decode (mC m_K_foreign) 75 = .ok (.ireturn, 1) := by decide +kernel
theorem d_W_foreign_0 : decode (mC m_W_foreign) 0 = .ok (.aload_n 2, 1) := by decide +kernel
theorem d_W_foreign_1 : decode (mC m_W_foreign) 1 = .ok (.iconst 0, 1) := by decide +kernel
theorem d_W_foreign_2 : decode (mC m_W_foreign) 2 = .ok (.aload_n 0, 1) := by decide +kernel
theorem d_W_foreign_3 : decode (mC m_W_foreign) 3 = .ok (.iload_n 1, 1) := by decide +kernel
theorem d_W_foreign_4 : decode (mC m_W_foreign) 4 = .ok (.invokevirtual 151, 3) := by decide +kernel
theorem d_W_foreign_7 : decode (mC m_W_foreign) 7 = .ok (.i2l, 1) := by decide +kernel
theorem d_W_foreign_8 : decode (mC m_W_foreign) 8 = .ok (.lastore, 1) := by decide +kernel
theorem d_W_foreign_9 : decode (mC m_W_foreign) 9 = .ok (.goto (9), 3) := by decide +kernel
theorem d_W_foreign_12 : decode (mC m_W_foreign) 12 = .ok (.astore_n 3, 1) := by decide +kernel
theorem d_W_foreign_13 : decode (mC m_W_foreign) 13 = .ok (.iconst 1, 1) := by decide +kernel
theorem d_W_foreign_14 : decode (mC m_W_foreign) 14 = .ok (.ireturn, 1) := by decide +kernel
theorem d_W_foreign_15 : decode (mC m_W_foreign) 15 = .ok (.astore_n 3, 1) := by decide +kernel
theorem d_W_foreign_16 : decode (mC m_W_foreign) 16 = .ok (.iconst 2, 1) := by decide +kernel
theorem d_W_foreign_17 : decode (mC m_W_foreign) 17 = .ok (.ireturn, 1) := by decide +kernel
theorem d_W_foreign_18 : decode (mC m_W_foreign) 18 = .ok (.iconst 0, 1) := by decide +kernel
theorem d_W_foreign_19 : decode (mC m_W_foreign) 19 = .ok (.ireturn, 1) := by decide +kernel
theorem d_M_foreign_0 : decode (mC m_M_foreign) 0 = .ok (.iload_n 1, 1) := by decide +kernel
theorem d_M_foreign_1 : decode (mC m_M_foreign) 1 = .ok (.invokestatic 284, 3) := by decide +kernel
theorem d_M_foreign_4 : decode (mC m_M_foreign) 4 = .ok (.istore_n 2, 1) := by decide +kernel
theorem d_M_foreign_5 : decode (mC m_M_foreign) 5 = .ok (.aload_n 0, 1) := by decide +kernel
theorem d_M_foreign_6 : decode (mC m_M_foreign) 6 = .ok (.iload_n 2, 1) := by decide +kernel
theorem d_M_foreign_7 : decode (mC m_M_foreign) 7 = .ok (.iload_n 2, 1) := by decide +kernel
theorem d_M_foreign_8 : decode (mC m_M_foreign) 8 = .ok (.ifCond .eq (40), 3) := by decide +kernel
theorem d_M_foreign_11 : decode (mC m_M_foreign) 11 = .ok (.aload_n 0, 1) := by decide +kernel
theorem d_M_foreign_12 : decode (mC m_M_foreign) 12 = .ok (.getfield 210, 3) := by decide +kernel
theorem d_M_foreign_15 : decode (mC m_M_foreign) 15 = .ok (.iload_n 1, 1) := by decide +kernel
theorem d_M_foreign_16 : decode (mC m_M_foreign) 16 = .ok (.iaload, 1) := by decide +kernel
theorem d_M_foreign_17 : decode (mC m_M_foreign) 17 = .ok (.iconst (-1), 1) := by decide +kernel
theorem d_M_foreign_18 : decode (mC m_M_foreign) 18 = .ok (.if_icmp .eq (30), 3) := by decide +kernel
theorem d_M_foreign_21 : decode (mC m_M_foreign) 21 = .ok (.aload_n 0, 1) := by decide +kernel
theorem d_M_foreign_22 : decode (mC m_M_foreign) 22 = .ok (.getfield 29, 3) := by decide +kernel
theorem d_M_foreign_25 : decode (mC m_M_foreign) 25 = .ok (.aload_n 0, 1) := by decide +kernel
theorem d_M_foreign_26 : decode (mC m_M_foreign) 26 = .ok (.getfield 210, 3) := by decide +kernel
theorem d_M_foreign_29 : decode (mC m_M_foreign) 29 = .ok (.iload_n 1, 1) := by decide +kernel
theorem d_M_foreign_30 : decode (mC m_M_foreign) 30 = .ok (.iaload, 1) := by decide +kernel
theorem d_M_foreign_31 : decode (mC m_M_foreign) 31 = .ok (.baload, 1) := by decide +kernel
theorem d_M_foreign_32 : decode (mC m_M_foreign) 32 = .ok (.ifCond .ne (16), 3) := by decide +kernel
theorem d_M_foreign_35 : decode (mC m_M_foreign) 35 = .ok (.aload_n 0, 1) := by decide +kernel
theorem d_M_foreign_36 : decode (mC m_M_foreign) 36 = .ok (.getfield 235, 3) := by decide +kernel
theorem d_M_foreign_39 : decode (mC m_M_foreign) 39 = .ok (.bipush (60), 2) := by decide +kernel
theorem d_M_foreign_41 : decode (mC m_M_foreign) 41 = .ok (.if_icmp .ge (7), 3) := by decide +kernel
theorem d_M_foreign_44 : decode (mC m_M_foreign) 44 = .ok (.iconst 1, 1) := by decide +kernel
theorem d_M_foreign_45 : decode (mC m_M_foreign) 45 = .ok (.goto (4), 3) := by decide +kernel
theorem d_M_foreign_48 : decode (mC m_M_foreign) 48 = .ok (.iconst 0, 1) := by decide +kernel
theorem d_M_foreign_49 : decode (mC m_M_foreign) 49 = .ok (.invokevirtual 274, 3) := by decide +kernel
theorem d_M_foreign_52 : decode (mC m_M_foreign) 52 = .ok (.ifCond .eq (17), 3) := by decide +kernel
theorem d_M_foreign_55 : decode (mC m_M_foreign) 55 = .ok (.aload_n 0, 1) := by decide +kernel
theorem d_M_foreign_56 : decode (mC m_M_foreign) 56 = .ok (.aload_n 0, 1) := by decide +kernel
theorem d_M_foreign_57 : decode (mC m_M_foreign) 57 = .ok (.getfield 210, 3) := by decide +kernel
theorem d_M_foreign_60 : decode (mC m_M_foreign) 60 = .ok (.iload_n 1, 1) := by decide +kernel
theorem d_M_foreign_61 : decode (mC m_M_foreign) 61 = .ok (.iaload, 1) := by decide +kernel
theorem d_M_foreign_62 : decode (mC m_M_foreign) 62 = .ok (.iconst (-1), 1) := by decide +kernel
theorem d_M_foreign_63 : decode (mC m_M_foreign) 63 = .ok (.invokevirtual 328, 3) := by decide +kernel
theorem d_M_foreign_66 : decode (mC m_M_foreign) 66 = .ok (.goto (4), 3) := by decide +kernel
theorem d_M_foreign_69 : decode (mC m_M_foreign) 69 = .ok (.iconst 0, 1) := by decide +kernel
theorem d_M_foreign_70 : decode (mC m_M_foreign) 70 = .ok (.ireturn, 1) := by decide +kernel
theorem d_K_denyAttemptsOf_0 : decode (mC m_K_denyAttemptsOf) 0 = .ok (.iconst 0, 1) := by decide +kernel
theorem d_K_denyAttemptsOf_1 : decode (mC m_K_denyAttemptsOf) 1 = .ok (.istore_n 2, 1) := by decide +kernel
theorem d_K_denyAttemptsOf_2 : decode (mC m_K_denyAttemptsOf) 2 = .ok (.iload_n 2, 1) := by decide +kernel
theorem d_K_denyAttemptsOf_3 : decode (mC m_K_denyAttemptsOf) 3 = .ok (.aload_n 0, 1) := by decide +kernel
theorem d_K_denyAttemptsOf_4 : decode (mC m_K_denyAttemptsOf) 4 = .ok (.getfield 43, 3) := by decide +kernel
theorem d_K_denyAttemptsOf_7 : decode (mC m_K_denyAttemptsOf) 7 = .ok (.invokevirtual 134, 3) := by decide +kernel
theorem d_K_denyAttemptsOf_10 : decode (mC m_K_denyAttemptsOf) 10 = .ok (.if_icmp .ge (41), 3) := by decide +kernel
theorem d_K_denyAttemptsOf_13 : decode (mC m_K_denyAttemptsOf) 13 = .ok (.aload_n 0, 1) := by decide +kernel
theorem d_K_denyAttemptsOf_14 : decode (mC m_K_denyAttemptsOf) 14 = .ok (.getfield 43, 3) := by decide +kernel
theorem d_K_denyAttemptsOf_17 : decode (mC m_K_denyAttemptsOf) 17 = .ok (.iload_n 2, 1) := by decide +kernel
theorem d_K_denyAttemptsOf_18 : decode (mC m_K_denyAttemptsOf) 18 = .ok (.invokevirtual 152, 3) := by decide +kernel
theorem d_K_denyAttemptsOf_21 : decode (mC m_K_denyAttemptsOf) 21 = .ok (.checkcast 166, 3) := by decide +kernel
theorem d_K_denyAttemptsOf_24 : decode (mC m_K_denyAttemptsOf) 24 = .ok (.astore_n 3, 1) := by decide +kernel
theorem d_K_denyAttemptsOf_25 : decode (mC m_K_denyAttemptsOf) 25 = .ok (.aload_n 3, 1) := by decide +kernel
theorem d_K_denyAttemptsOf_26 : decode (mC m_K_denyAttemptsOf) 26 = .ok (.getfield 481, 3) := by decide +kernel
theorem d_K_denyAttemptsOf_29 : decode (mC m_K_denyAttemptsOf) 29 = .ok (.aload_n 1, 1) := by decide +kernel
theorem d_K_denyAttemptsOf_30 : decode (mC m_K_denyAttemptsOf) 30 = .ok (.if_acmp .ne (15), 3) := by decide +kernel
theorem d_K_denyAttemptsOf_33 : decode (mC m_K_denyAttemptsOf) 33 = .ok (.aload_n 3, 1) := by decide +kernel
theorem d_K_denyAttemptsOf_34 : decode (mC m_K_denyAttemptsOf) 34 = .ok (.getfield 179, 3) := by decide +kernel
theorem d_K_denyAttemptsOf_37 : decode (mC m_K_denyAttemptsOf) 37 = .ok (.ifCond .ne (8), 3) := by decide +kernel
theorem d_K_denyAttemptsOf_40 : decode (mC m_K_denyAttemptsOf) 40 = .ok (.aload_n 3, 1) := by decide +kernel
theorem d_K_denyAttemptsOf_41 : decode (mC m_K_denyAttemptsOf) 41 = .ok (.iconst 2, 1) := by decide +kernel
theorem d_K_denyAttemptsOf_42 : decode (mC m_K_denyAttemptsOf) 42 = .ok (.putfield 179, 3) := by decide +kernel
theorem d_K_denyAttemptsOf_45 : decode (mC m_K_denyAttemptsOf) 45 = .ok (.iinc 2 (1), 3) := by decide +kernel
theorem d_K_denyAttemptsOf_48 : decode (mC m_K_denyAttemptsOf) 48 = .ok (.goto (-46), 3) := by decide +kernel
theorem d_K_denyAttemptsOf_51 : decode (mC m_K_denyAttemptsOf) 51 = .ok (.return_, 1) := by decide +kernel
theorem d_K_stopRecoveriesOf_0 : decode (mC m_K_stopRecoveriesOf) 0 = .ok (.iconst 0, 1) := by decide +kernel
theorem d_K_stopRecoveriesOf_1 : decode (mC m_K_stopRecoveriesOf) 1 = .ok (.istore_n 2, 1) := by decide +kernel
theorem d_K_stopRecoveriesOf_2 : decode (mC m_K_stopRecoveriesOf) 2 = .ok (.iload_n 2, 1) := by decide +kernel
theorem d_K_stopRecoveriesOf_3 : decode (mC m_K_stopRecoveriesOf) 3 = .ok (.aload_n 0, 1) := by decide +kernel
theorem d_K_stopRecoveriesOf_4 : decode (mC m_K_stopRecoveriesOf) 4 = .ok (.getfield 74, 3) := by decide +kernel
theorem d_K_stopRecoveriesOf_7 : decode (mC m_K_stopRecoveriesOf) 7 = .ok (.invokevirtual 134, 3) := by decide +kernel
theorem d_K_stopRecoveriesOf_10 : decode (mC m_K_stopRecoveriesOf) 10 = .ok (.if_icmp .ge (34), 3) := by decide +kernel
theorem d_K_stopRecoveriesOf_13 : decode (mC m_K_stopRecoveriesOf) 13 = .ok (.aload_n 0, 1) := by decide +kernel
theorem d_K_stopRecoveriesOf_14 : decode (mC m_K_stopRecoveriesOf) 14 = .ok (.getfield 74, 3) := by decide +kernel
theorem d_K_stopRecoveriesOf_17 : decode (mC m_K_stopRecoveriesOf) 17 = .ok (.iload_n 2, 1) := by decide +kernel
theorem d_K_stopRecoveriesOf_18 : decode (mC m_K_stopRecoveriesOf) 18 = .ok (.invokevirtual 152, 3) := by decide +kernel
theorem d_K_stopRecoveriesOf_21 : decode (mC m_K_stopRecoveriesOf) 21 = .ok (.checkcast 390, 3) := by decide +kernel
theorem d_K_stopRecoveriesOf_24 : decode (mC m_K_stopRecoveriesOf) 24 = .ok (.astore_n 3, 1) := by decide +kernel
theorem d_K_stopRecoveriesOf_25 : decode (mC m_K_stopRecoveriesOf) 25 = .ok (.aload_n 3, 1) := by decide +kernel
theorem d_K_stopRecoveriesOf_26 : decode (mC m_K_stopRecoveriesOf) 26 = .ok (.getfield 402, 3) := by decide +kernel
theorem d_K_stopRecoveriesOf_29 : decode (mC m_K_stopRecoveriesOf) 29 = .ok (.aload_n 1, 1) := by decide +kernel
theorem d_K_stopRecoveriesOf_30 : decode (mC m_K_stopRecoveriesOf) 30 = .ok (.if_acmp .ne (8), 3) := by decide +kernel
theorem d_K_stopRecoveriesOf_33 : decode (mC m_K_stopRecoveriesOf) 33 = .ok (.aload_n 3, 1) := by decide +kernel
theorem d_K_stopRecoveriesOf_34 : decode (mC m_K_stopRecoveriesOf) 34 = .ok (.iconst 0, 1) := by decide +kernel
theorem d_K_stopRecoveriesOf_35 : decode (mC m_K_stopRecoveriesOf) 35 = .ok (.putfield 399, 3) := by decide +kernel
theorem d_K_stopRecoveriesOf_38 : decode (mC m_K_stopRecoveriesOf) 38 = .ok (.iinc 2 (1), 3) := by decide +kernel
theorem d_K_stopRecoveriesOf_41 : decode (mC m_K_stopRecoveriesOf) 41 = .ok (.goto (-39), 3) := by decide +kernel
theorem d_K_stopRecoveriesOf_44 : decode (mC m_K_stopRecoveriesOf) 44 = .ok (.return_, 1) := by decide +kernel
theorem d_K_leave_0 : decode (mC m_K_leave) 0 = .ok (.aload_n 0, 1) := by decide +kernel
theorem d_K_leave_1 : decode (mC m_K_leave) 1 = .ok (.iload_n 1, 1) := by decide +kernel
theorem d_K_leave_2 : decode (mC m_K_leave) 2 = .ok (.invokevirtual 108, 3) := by decide +kernel
theorem d_K_leave_5 : decode (mC m_K_leave) 5 = .ok (.astore_n 2, 1) := by decide +kernel
theorem d_K_leave_6 : decode (mC m_K_leave) 6 = .ok (.aload_n 2, 1) := by decide +kernel
theorem d_K_leave_7 : decode (mC m_K_leave) 7 = .ok (.aload_n 2, 1) := by decide +kernel
theorem d_K_leave_8 : decode (mC m_K_leave) 8 = .ok (.getfield 162, 3) := by decide +kernel
theorem d_K_leave_11 : decode (mC m_K_leave) 11 = .ok (.ifCond .ne (7), 3) := by decide +kernel
theorem d_K_leave_14 : decode (mC m_K_leave) 14 = .ok (.iconst 1, 1) := by decide +kernel
theorem d_K_leave_15 : decode (mC m_K_leave) 15 = .ok (.goto (4), 3) := by decide +kernel
theorem d_K_leave_18 : decode (mC m_K_leave) 18 = .ok (.iconst 0, 1) := by decide +kernel
theorem d_K_leave_19 : decode (mC m_K_leave) 19 = .ok (.putfield 162, 3) := by decide +kernel
theorem d_K_leave_22 : decode (mC m_K_leave) 22 = .ok (.aload_n 2, 1) := by decide +kernel
theorem d_K_leave_23 : decode (mC m_K_leave) 23 = .ok (.getfield 162, 3) := by decide +kernel
theorem d_K_leave_26 : decode (mC m_K_leave) 26 = .ok (.ifCond .ne (5), 3) := by decide +kernel
theorem d_K_leave_29 : decode (mC m_K_leave) 29 = .ok (.iconst (-1), 1) := by decide +kernel
theorem d_K_leave_30 : decode (mC m_K_leave) 30 = .ok (.ireturn, 1) := by decide +kernel
theorem d_K_leave_31 : decode (mC m_K_leave) 31 = .ok (.aload_n 0, 1) := by decide +kernel
theorem d_K_leave_32 : decode (mC m_K_leave) 32 = .ok (.aload_n 2, 1) := by decide +kernel
theorem d_K_leave_33 : decode (mC m_K_leave) 33 = .ok (.invokevirtual 427, 3) := by decide +kernel
theorem d_K_leave_36 : decode (mC m_K_leave) 36 = .ok (.aload_n 0, 1) := by decide +kernel
theorem d_K_leave_37 : decode (mC m_K_leave) 37 = .ok (.aload_n 2, 1) := by decide +kernel
theorem d_K_leave_38 : decode (mC m_K_leave) 38 = .ok (.invokevirtual 431, 3) := by decide +kernel
theorem d_K_leave_41 : decode (mC m_K_leave) 41 = .ok (.aload_n 0, 1) := by decide +kernel
theorem d_K_leave_42 : decode (mC m_K_leave) 42 = .ok (.aload_n 2, 1) := by decide +kernel
theorem d_K_leave_43 : decode (mC m_K_leave) 43 = .ok (.invokevirtual 419, 3) := by decide +kernel
theorem d_K_leave_46 : decode (mC m_K_leave) 46 = .ok (.ireturn, 1) := by decide +kernel
theorem d_W_leave_0 : decode (mC m_W_leave) 0 = .ok (.aload_n 2, 1) := by decide +kernel
theorem d_W_leave_1 : decode (mC m_W_leave) 1 = .ok (.iconst 0, 1) := by decide +kernel
theorem d_W_leave_2 : decode (mC m_W_leave) 2 = .ok (.aload_n 0, 1) := by decide +kernel
theorem d_W_leave_3 : decode (mC m_W_leave) 3 = .ok (.iload_n 1, 1) := by decide +kernel
theorem d_W_leave_4 : decode (mC m_W_leave) 4 = .ok (.invokevirtual 154, 3) := by decide +kernel
theorem d_W_leave_7 : decode (mC m_W_leave) 7 = .ok (.i2l, 1) := by decide +kernel
theorem d_W_leave_8 : decode (mC m_W_leave) 8 = .ok (.lastore, 1) := by decide +kernel
theorem d_W_leave_9 : decode (mC m_W_leave) 9 = .ok (.goto (6), 3) := by decide +kernel
theorem d_W_leave_12 : decode (mC m_W_leave) 12 = .ok (.astore_n 3, 1) := by decide +kernel
theorem d_W_leave_13 : decode (mC m_W_leave) 13 = .ok (.iconst 1, 1) := by decide +kernel
theorem d_W_leave_14 : decode (mC m_W_leave) 14 = .ok (.ireturn, 1) := by decide +kernel
theorem d_W_leave_15 : decode (mC m_W_leave) 15 = .ok (.iconst 0, 1) := by decide +kernel
theorem d_W_leave_16 : decode (mC m_W_leave) 16 = .ok (.ireturn, 1) := by decide +kernel
theorem d_M_leave_0 : decode (mC m_M_leave) 0 = .ok (.aload_n 0, 1) := by decide +kernel
theorem d_M_leave_1 : decode (mC m_M_leave) 1 = .ok (.iload_n 1, 1) := by decide +kernel
theorem d_M_leave_2 : decode (mC m_M_leave) 2 = .ok (.invokestatic 284, 3) := by decide +kernel
theorem d_M_leave_5 : decode (mC m_M_leave) 5 = .ok (.invokevirtual 251, 3) := by decide +kernel
theorem d_M_leave_8 : decode (mC m_M_leave) 8 = .ok (.ifCond .ne (5), 3) := by decide +kernel
theorem d_M_leave_11 : decode (mC m_M_leave) 11 = .ok (.iconst 0, 1) := by decide +kernel
theorem d_M_leave_12 : decode (mC m_M_leave) 12 = .ok (.ireturn, 1) := by decide +kernel
theorem d_M_leave_13 : decode (mC m_M_leave) 13 = .ok (.aload_n 0, 1) := by decide +kernel
theorem d_M_leave_14 : decode (mC m_M_leave) 14 = .ok (.getfield 29, 3) := by decide +kernel
theorem d_M_leave_17 : decode (mC m_M_leave) 17 = .ok (.iload_n 1, 1) := by decide +kernel
theorem d_M_leave_18 : decode (mC m_M_leave) 18 = .ok (.aload_n 0, 1) := by decide +kernel
theorem d_M_leave_19 : decode (mC m_M_leave) 19 = .ok (.getfield 29, 3) := by decide +kernel
theorem d_M_leave_22 : decode (mC m_M_leave) 22 = .ok (.iload_n 1, 1) := by decide +kernel
theorem d_M_leave_23 : decode (mC m_M_leave) 23 = .ok (.baload, 1) := by decide +kernel
theorem d_M_leave_24 : decode (mC m_M_leave) 24 = .ok (.ifCond .ne (7), 3) := by decide +kernel
theorem d_M_leave_27 : decode (mC m_M_leave) 27 = .ok (.iconst 1, 1) := by decide +kernel
theorem d_M_leave_28 : decode (mC m_M_leave) 28 = .ok (.goto (4), 3) := by decide +kernel
theorem d_M_leave_31 : decode (mC m_M_leave) 31 = .ok (.iconst 0, 1) := by decide +kernel
theorem d_M_leave_32 : decode (mC m_M_leave) 32 = .ok (.bastore, 1) := by decide +kernel
theorem d_M_leave_33 : decode (mC m_M_leave) 33 = .ok (.aload_n 0, 1) := by decide +kernel
theorem d_M_leave_34 : decode (mC m_M_leave) 34 = .ok (.getfield 29, 3) := by decide +kernel
theorem d_M_leave_37 : decode (mC m_M_leave) 37 = .ok (.iload_n 1, 1) := by decide +kernel
theorem d_M_leave_38 : decode (mC m_M_leave) 38 = .ok (.baload, 1) := by decide +kernel
theorem d_M_leave_39 : decode (mC m_M_leave) 39 = .ok (.ifCond .ne (5), 3) := by decide +kernel
theorem d_M_leave_42 : decode (mC m_M_leave) 42 = .ok (.iconst (-1), 1) := by decide +kernel
theorem d_M_leave_43 : decode (mC m_M_leave) 43 = .ok (.ireturn, 1) := by decide +kernel
theorem d_M_leave_44 : decode (mC m_M_leave) 44 = .ok (.aload_n 0, 1) := by decide +kernel
theorem d_M_leave_45 : decode (mC m_M_leave) 45 = .ok (.iload_n 1, 1) := by decide +kernel
theorem d_M_leave_46 : decode (mC m_M_leave) 46 = .ok (.invokevirtual 395, 3) := by decide +kernel
theorem d_M_leave_49 : decode (mC m_M_leave) 49 = .ok (.istore_n 2, 1) := by decide +kernel
theorem d_M_leave_50 : decode (mC m_M_leave) 50 = .ok (.iconst 0, 1) := by decide +kernel
theorem d_M_leave_51 : decode (mC m_M_leave) 51 = .ok (.istore_n 3, 1) := by decide +kernel
theorem d_M_leave_52 : decode (mC m_M_leave) 52 = .ok (.iload_n 3, 1) := by decide +kernel
theorem d_M_leave_53 : decode (mC m_M_leave) 53 = .ok (.aload_n 0, 1) := by decide +kernel
theorem d_M_leave_54 : decode (mC m_M_leave) 54 = .ok (.getfield 232, 3) := by decide +kernel
theorem d_M_leave_57 : decode (mC m_M_leave) 57 = .ok (.if_icmp .ge (44), 3) := by decide +kernel
theorem d_M_leave_60 : decode (mC m_M_leave) 60 = .ok (.aload_n 0, 1) := by decide +kernel
theorem d_M_leave_61 : decode (mC m_M_leave) 61 = .ok (.getfield 77, 3) := by decide +kernel
theorem d_M_leave_64 : decode (mC m_M_leave) 64 = .ok (.iload_n 3, 1) := by decide +kernel
theorem d_M_leave_65 : decode (mC m_M_leave) 65 = .ok (.aload_n 0, 1) := by decide +kernel
theorem d_M_leave_66 : decode (mC m_M_leave) 66 = .ok (.getfield 62, 3) := by decide +kernel
theorem d_M_leave_69 : decode (mC m_M_leave) 69 = .ok (.iload_n 3, 1) := by decide +kernel
theorem d_M_leave_70 : decode (mC m_M_leave) 70 = .ok (.iaload, 1) := by decide +kernel
theorem d_M_leave_71 : decode (mC m_M_leave) 71 = .ok (.iload_n 1, 1) := by decide +kernel
theorem d_M_leave_72 : decode (mC m_M_leave) 72 = .ok (.if_icmp .ne (16), 3) := by decide +kernel
theorem d_M_leave_75 : decode (mC m_M_leave) 75 = .ok (.aload_n 0, 1) := by decide +kernel
theorem d_M_leave_76 : decode (mC m_M_leave) 76 = .ok (.getfield 77, 3) := by decide +kernel
theorem d_M_leave_79 : decode (mC m_M_leave) 79 = .ok (.iload_n 3, 1) := by decide +kernel
theorem d_M_leave_80 : decode (mC m_M_leave) 80 = .ok (.iaload, 1) := by decide +kernel
theorem d_M_leave_81 : decode (mC m_M_leave) 81 = .ok (.ifCond .ne (7), 3) := by decide +kernel
theorem d_M_leave_84 : decode (mC m_M_leave) 84 = .ok (.iconst 2, 1) := by decide +kernel
theorem d_M_leave_85 : decode (mC m_M_leave) 85 = .ok (.goto (9), 3) := by decide +kernel
theorem d_M_leave_88 : decode (mC m_M_leave) 88 = .ok (.aload_n 0, 1) := by decide +kernel
theorem d_M_leave_89 : decode (mC m_M_leave) 89 = .ok (.getfield 77, 3) := by decide +kernel
theorem d_M_leave_92 : decode (mC m_M_leave) 92 = .ok (.iload_n 3, 1) := by decide +kernel
theorem d_M_leave_93 : decode (mC m_M_leave) 93 = .ok (.iaload, 1) := by decide +kernel
theorem d_M_leave_94 : decode (mC m_M_leave) 94 = .ok (.iastore, 1) := by decide +kernel
theorem d_M_leave_95 : decode (mC m_M_leave) 95 = .ok (.iinc 3 (1), 3) := by decide +kernel
theorem d_M_leave_98 : decode (mC m_M_leave) 98 = .ok (.goto (-46), 3) := by decide +kernel
theorem d_M_leave_101 : decode (mC m_M_leave) 101 = .ok (.iconst 0, 1) := by decide +kernel
theorem d_M_leave_102 : decode (mC m_M_leave) 102 = .ok (.istore_n 3, 1) := by decide +kernel
theorem d_M_leave_103 : decode (mC m_M_leave) 103 = .ok (.iload_n 3, 1) := by decide +kernel
theorem d_M_leave_104 : decode (mC m_M_leave) 104 = .ok (.aload_n 0, 1) := by decide +kernel
theorem d_M_leave_105 : decode (mC m_M_leave) 105 = .ok (.getfield 380, 3) := by decide +kernel
theorem d_M_leave_108 : decode (mC m_M_leave) 108 = .ok (.if_icmp .ge (39), 3) := by decide +kernel
theorem d_M_leave_111 : decode (mC m_M_leave) 111 = .ok (.aload_n 0, 1) := by decide +kernel
theorem d_M_leave_112 : decode (mC m_M_leave) 112 = .ok (.getfield 201, 3) := by decide +kernel
theorem d_M_leave_115 : decode (mC m_M_leave) 115 = .ok (.iload_n 3, 1) := by decide +kernel
theorem d_M_leave_116 : decode (mC m_M_leave) 116 = .ok (.aload_n 0, 1) := by decide +kernel
theorem d_M_leave_117 : decode (mC m_M_leave) 117 = .ok (.getfield 201, 3) := by decide +kernel
theorem d_M_leave_120 : decode (mC m_M_leave) 120 = .ok (.iload_n 3, 1) := by decide +kernel
theorem d_M_leave_121 : decode (mC m_M_leave) 121 = .ok (.baload, 1) := by decide +kernel
theorem d_M_leave_122 : decode (mC m_M_leave) 122 = .ok (.ifCond .eq (17), 3) := by decide +kernel
theorem d_M_leave_125 : decode (mC m_M_leave) 125 = .ok (.aload_n 0, 1) := by decide +kernel
theorem d_M_leave_126 : decode (mC m_M_leave) 126 = .ok (.getfield 195, 3) := by decide +kernel
theorem d_M_leave_129 : decode (mC m_M_leave) 129 = .ok (.iload_n 3, 1) := by decide +kernel
theorem d_M_leave_130 : decode (mC m_M_leave) 130 = .ok (.iaload, 1) := by decide +kernel
theorem d_M_leave_131 : decode (mC m_M_leave) 131 = .ok (.iload_n 1, 1) := by decide +kernel
theorem d_M_leave_132 : decode (mC m_M_leave) 132 = .ok (.if_icmp .eq (7), 3) := by decide +kernel
theorem d_M_leave_135 : decode (mC m_M_leave) 135 = .ok (.iconst 1, 1) := by decide +kernel
theorem d_M_leave_136 : decode (mC m_M_leave) 136 = .ok (.goto (4), 3) := by decide +kernel
theorem d_M_leave_139 : decode (mC m_M_leave) 139 = .ok (.iconst 0, 1) := by decide +kernel
theorem d_M_leave_140 : decode (mC m_M_leave) 140 = .ok (.bastore, 1) := by decide +kernel
theorem d_M_leave_141 : decode (mC m_M_leave) 141 = .ok (.iinc 3 (1), 3) := by decide +kernel
theorem d_M_leave_144 : decode (mC m_M_leave) 144 = .ok (.goto (-41), 3) := by decide +kernel
theorem d_M_leave_147 : decode (mC m_M_leave) 147 = .ok (.iload_n 2, 1) := by decide +kernel
theorem d_M_leave_148 : decode (mC m_M_leave) 148 = .ok (.ireturn, 1) := by decide +kernel
theorem d_K_audits_0 : decode (mC m_K_audits) 0 = .ok (.aload_n 0, 1) := by decide +kernel
theorem d_K_audits_1 : decode (mC m_K_audits) 1 = .ok (.getfield 10, 3) := by decide +kernel
theorem d_K_audits_4 : decode (mC m_K_audits) 4 = .ok (.getfield 434, 3) := by decide +kernel
theorem d_K_audits_7 : decode (mC m_K_audits) 7 = .ok (.ireturn, 1) := by decide +kernel
theorem d_M_audits_0 : decode (mC m_M_audits) 0 = .ok (.aload_n 0, 1) := by decide +kernel
theorem d_M_audits_1 : decode (mC m_M_audits) 1 = .ok (.iconst 0, 1) := by decide +kernel
theorem d_M_audits_2 : decode (mC m_M_audits) 2 = .ok (.putfield 225, 3) := by decide +kernel
theorem d_M_audits_5 : decode (mC m_M_audits) 5 = .ok (.aload_n 0, 1) := by decide +kernel
theorem d_M_audits_6 : decode (mC m_M_audits) 6 = .ok (.getfield 244, 3) := by decide +kernel
theorem d_M_audits_9 : decode (mC m_M_audits) 9 = .ok (.ireturn, 1) := by decide +kernel
theorem d_K_audit_0 : decode (mC m_K_audit) 0 = .ok (.iload_n 1, 1) := by decide +kernel
theorem d_K_audit_1 : decode (mC m_K_audit) 1 = .ok (.aload_n 0, 1) := by decide +kernel
theorem d_K_audit_2 : decode (mC m_K_audit) 2 = .ok (.getfield 10, 3) := by decide +kernel
theorem d_K_audit_5 : decode (mC m_K_audit) 5 = .ok (.getfield 434, 3) := by decide +kernel
theorem d_K_audit_8 : decode (mC m_K_audit) 8 = .ok (.invokestatic 148, 3) := by decide +kernel
theorem d_K_audit_11 : decode (mC m_K_audit) 11 = .ok (.aload_n 0, 1) := by decide +kernel
theorem d_K_audit_12 : decode (mC m_K_audit) 12 = .ok (.getfield 10, 3) := by decide +kernel
theorem d_K_audit_15 : decode (mC m_K_audit) 15 = .ok (.iload_n 1, 1) := by decide +kernel
theorem d_K_audit_16 : decode (mC m_K_audit) 16 = .ok (.invokevirtual 435, 3) := by decide +kernel
theorem d_K_audit_19 : decode (mC m_K_audit) 19 = .ok (.ireturn, 1) := by decide +kernel
theorem d_W_audit_0 : decode (mC m_W_audit) 0 = .ok (.aload_n 2, 1) := by decide +kernel
theorem d_W_audit_1 : decode (mC m_W_audit) 1 = .ok (.iconst 0, 1) := by decide +kernel
theorem d_W_audit_2 : decode (mC m_W_audit) 2 = .ok (.aload_n 0, 1) := by decide +kernel
theorem d_W_audit_3 : decode (mC m_W_audit) 3 = .ok (.iload_n 1, 1) := by decide +kernel
theorem d_W_audit_4 : decode (mC m_W_audit) 4 = .ok (.invokevirtual 157, 3) := by decide +kernel
theorem d_W_audit_7 : decode (mC m_W_audit) 7 = .ok (.i2l, 1) := by decide +kernel
theorem d_W_audit_8 : decode (mC m_W_audit) 8 = .ok (.lastore, 1) := by decide +kernel
theorem d_W_audit_9 : decode (mC m_W_audit) 9 = .ok (.goto (6), 3) := by decide +kernel
theorem d_W_audit_12 : decode (mC m_W_audit) 12 = .ok (.astore_n 3, 1) := by decide +kernel
theorem d_W_audit_13 : decode (mC m_W_audit) 13 = .ok (.iconst 1, 1) := by decide +kernel
theorem d_W_audit_14 : decode (mC m_W_audit) 14 = .ok (.ireturn, 1) := by decide +kernel
theorem d_W_audit_15 : decode (mC m_W_audit) 15 = .ok (.iconst 0, 1) := by decide +kernel
theorem d_W_audit_16 : decode (mC m_W_audit) 16 = .ok (.ireturn, 1) := by decide +kernel
theorem d_M_audit_0 : decode (mC m_M_audit) 0 = .ok (.aload_n 0, 1) := by decide +kernel
theorem d_M_audit_1 : decode (mC m_M_audit) 1 = .ok (.iload_n 1, 1) := by decide +kernel
theorem d_M_audit_2 : decode (mC m_M_audit) 2 = .ok (.iconst 0, 1) := by decide +kernel
theorem d_M_audit_3 : decode (mC m_M_audit) 3 = .ok (.aload_n 0, 1) := by decide +kernel
theorem d_M_audit_4 : decode (mC m_M_audit) 4 = .ok (.getfield 244, 3) := by decide +kernel
theorem d_M_audit_7 : decode (mC m_M_audit) 7 = .ok (.iconst 1, 1) := by decide +kernel
theorem d_M_audit_8 : decode (mC m_M_audit) 8 = .ok (.isub, 1) := by decide +kernel
theorem d_M_audit_9 : decode (mC m_M_audit) 9 = .ok (.invokestatic 228, 3) := by decide +kernel
theorem d_M_audit_12 : decode (mC m_M_audit) 12 = .ok (.invokevirtual 251, 3) := by decide +kernel
theorem d_M_audit_15 : decode (mC m_M_audit) 15 = .ok (.ifCond .eq (23), 3) := by decide +kernel
theorem d_M_audit_18 : decode (mC m_M_audit) 18 = .ok (.sipush (1000), 3) := by decide +kernel
theorem d_M_audit_21 : decode (mC m_M_audit) 21 = .ok (.aload_n 0, 1) := by decide +kernel
theorem d_M_audit_22 : decode (mC m_M_audit) 22 = .ok (.getfield 213, 3) := by decide +kernel
theorem d_M_audit_25 : decode (mC m_M_audit) 25 = .ok (.iload_n 1, 1) := by decide +kernel
theorem d_M_audit_26 : decode (mC m_M_audit) 26 = .ok (.iaload, 1) := by decide +kernel
theorem d_M_audit_27 : decode (mC m_M_audit) 27 = .ok (.imul, 1) := by decide +kernel
theorem d_M_audit_28 : decode (mC m_M_audit) 28 = .ok (.aload_n 0, 1) := by decide +kernel
theorem d_M_audit_29 : decode (mC m_M_audit) 29 = .ok (.getfield 216, 3) := by decide +kernel
theorem d_M_audit_32 : decode (mC m_M_audit) 32 = .ok (.iload_n 1, 1) := by decide +kernel
theorem d_M_audit_33 : decode (mC m_M_audit) 33 = .ok (.iaload, 1) := by decide +kernel
theorem d_M_audit_34 : decode (mC m_M_audit) 34 = .ok (.iadd, 1) := by decide +kernel
theorem d_M_audit_35 : decode (mC m_M_audit) 35 = .ok (.goto (4), 3) := by decide +kernel
theorem d_M_audit_38 : decode (mC m_M_audit) 38 = .ok (.iconst 0, 1) := by decide +kernel
theorem d_M_audit_39 : decode (mC m_M_audit) 39 = .ok (.ireturn, 1) := by decide +kernel
theorem d_K_sum_0 : decode (mC m_K_sum) 0 = .ok (.aload_n 0, 1) := by decide +kernel
theorem d_K_sum_1 : decode (mC m_K_sum) 1 = .ok (.getfield 10, 3) := by decide +kernel
theorem d_K_sum_4 : decode (mC m_K_sum) 4 = .ok (.getfield 438, 3) := by decide +kernel
theorem d_K_sum_7 : decode (mC m_K_sum) 7 = .ok (.ireturn, 1) := by decide +kernel
theorem d_M_sum_0 : decode (mC m_M_sum) 0 = .ok (.aload_n 0, 1) := by decide +kernel
theorem d_M_sum_1 : decode (mC m_M_sum) 1 = .ok (.iconst 0, 1) := by decide +kernel
theorem d_M_sum_2 : decode (mC m_M_sum) 2 = .ok (.putfield 225, 3) := by decide +kernel
theorem d_M_sum_5 : decode (mC m_M_sum) 5 = .ok (.aload_n 0, 1) := by decide +kernel
theorem d_M_sum_6 : decode (mC m_M_sum) 6 = .ok (.getfield 222, 3) := by decide +kernel
theorem d_M_sum_9 : decode (mC m_M_sum) 9 = .ok (.ireturn, 1) := by decide +kernel
theorem d_Audit_totalOfFirst_0 : decode (mC m_Audit_totalOfFirst) 0 = .ok (.bipush (7), 2) := by decide +kernel
theorem d_Audit_totalOfFirst_2 : decode (mC m_Audit_totalOfFirst) 2 = .ok (.istore_n 2, 1) := by decide +kernel
theorem d_Audit_totalOfFirst_3 : decode (mC m_Audit_totalOfFirst) 3 = .ok (.iconst 0, 1) := by decide +kernel
theorem d_Audit_totalOfFirst_4 : decode (mC m_Audit_totalOfFirst) 4 = .ok (.istore_n 3, 1) := by decide +kernel
theorem d_Audit_totalOfFirst_5 : decode (mC m_Audit_totalOfFirst) 5 = .ok (.iload_n 3, 1) := by decide +kernel
theorem d_Audit_totalOfFirst_6 : decode (mC m_Audit_totalOfFirst) 6 = .ok (.iload_n 1, 1) := by decide +kernel
theorem d_Audit_totalOfFirst_7 : decode (mC m_Audit_totalOfFirst) 7 = .ok (.if_icmp .ge (16), 3) := by decide +kernel
theorem d_Audit_totalOfFirst_10 : decode (mC m_Audit_totalOfFirst) 10 = .ok (.aload_n 0, 1) := by decide +kernel
theorem d_Audit_totalOfFirst_11 : decode (mC m_Audit_totalOfFirst) 11 = .ok (.iload_n 2, 1) := by decide +kernel
theorem d_Audit_totalOfFirst_12 : decode (mC m_Audit_totalOfFirst) 12 = .ok (.iload_n 3, 1) := by decide +kernel
theorem d_Audit_totalOfFirst_13 : decode (mC m_Audit_totalOfFirst) 13 = .ok (.invokevirtual 23, 3) := by decide +kernel
theorem d_Audit_totalOfFirst_16 : decode (mC m_Audit_totalOfFirst) 16 = .ok (.istore_n 2, 1) := by decide +kernel
theorem d_Audit_totalOfFirst_17 : decode (mC m_Audit_totalOfFirst) 17 = .ok (.iinc 3 (1), 3) := by decide +kernel
theorem d_Audit_totalOfFirst_20 : decode (mC m_Audit_totalOfFirst) 20 = .ok (.goto (-15), 3) := by decide +kernel
theorem d_Audit_totalOfFirst_23 : decode (mC m_Audit_totalOfFirst) 23 = .ok (.iload_n 2, 1) := by decide +kernel
theorem d_Audit_totalOfFirst_24 : decode (mC m_Audit_totalOfFirst) 24 = .ok (.ireturn, 1) := by decide +kernel
theorem d_K_sumAnew_0 : decode (mC m_K_sumAnew) 0 = .ok (.iload_n 1, 1) := by decide +kernel
theorem d_K_sumAnew_1 : decode (mC m_K_sumAnew) 1 = .ok (.aload_n 0, 1) := by decide +kernel
theorem d_K_sumAnew_2 : decode (mC m_K_sumAnew) 2 = .ok (.getfield 10, 3) := by decide +kernel
theorem d_K_sumAnew_5 : decode (mC m_K_sumAnew) 5 = .ok (.getfield 434, 3) := by decide +kernel
theorem d_K_sumAnew_8 : decode (mC m_K_sumAnew) 8 = .ok (.iconst 1, 1) := by decide +kernel
theorem d_K_sumAnew_9 : decode (mC m_K_sumAnew) 9 = .ok (.iadd, 1) := by decide +kernel
theorem d_K_sumAnew_10 : decode (mC m_K_sumAnew) 10 = .ok (.invokestatic 148, 3) := by decide +kernel
theorem d_K_sumAnew_13 : decode (mC m_K_sumAnew) 13 = .ok (.aload_n 0, 1) := by decide +kernel
theorem d_K_sumAnew_14 : decode (mC m_K_sumAnew) 14 = .ok (.getfield 10, 3) := by decide +kernel
theorem d_K_sumAnew_17 : decode (mC m_K_sumAnew) 17 = .ok (.iload_n 1, 1) := by decide +kernel
theorem d_K_sumAnew_18 : decode (mC m_K_sumAnew) 18 = .ok (.invokevirtual 441, 3) := by decide +kernel
theorem d_K_sumAnew_21 : decode (mC m_K_sumAnew) 21 = .ok (.ireturn, 1) := by decide +kernel
theorem d_W_sumAnew_0 : decode (mC m_W_sumAnew) 0 = .ok (.aload_n 2, 1) := by decide +kernel
theorem d_W_sumAnew_1 : decode (mC m_W_sumAnew) 1 = .ok (.iconst 0, 1) := by decide +kernel
theorem d_W_sumAnew_2 : decode (mC m_W_sumAnew) 2 = .ok (.aload_n 0, 1) := by decide +kernel
theorem d_W_sumAnew_3 : decode (mC m_W_sumAnew) 3 = .ok (.iload_n 1, 1) := by decide +kernel
theorem d_W_sumAnew_4 : decode (mC m_W_sumAnew) 4 = .ok (.invokevirtual 160, 3) := by decide +kernel
theorem d_W_sumAnew_7 : decode (mC m_W_sumAnew) 7 = .ok (.i2l, 1) := by decide +kernel
theorem d_W_sumAnew_8 : decode (mC m_W_sumAnew) 8 = .ok (.lastore, 1) := by decide +kernel
theorem d_W_sumAnew_9 : decode (mC m_W_sumAnew) 9 = .ok (.goto (6), 3) := by decide +kernel
theorem d_W_sumAnew_12 : decode (mC m_W_sumAnew) 12 = .ok (.astore_n 3, 1) := by decide +kernel
theorem d_W_sumAnew_13 : decode (mC m_W_sumAnew) 13 = .ok (.iconst 1, 1) := by decide +kernel
theorem d_W_sumAnew_14 : decode (mC m_W_sumAnew) 14 = .ok (.ireturn, 1) := by decide +kernel
theorem d_W_sumAnew_15 : decode (mC m_W_sumAnew) 15 = .ok (.iconst 0, 1) := by decide +kernel
theorem d_W_sumAnew_16 : decode (mC m_W_sumAnew) 16 = .ok (.ireturn, 1) := by decide +kernel
theorem d_M_sumAnew_0 : decode (mC m_M_sumAnew) 0 = .ok (.aload_n 0, 1) := by decide +kernel
theorem d_M_sumAnew_1 : decode (mC m_M_sumAnew) 1 = .ok (.iload_n 1, 1) := by decide +kernel
theorem d_M_sumAnew_2 : decode (mC m_M_sumAnew) 2 = .ok (.iconst 0, 1) := by decide +kernel
theorem d_M_sumAnew_3 : decode (mC m_M_sumAnew) 3 = .ok (.aload_n 0, 1) := by decide +kernel
theorem d_M_sumAnew_4 : decode (mC m_M_sumAnew) 4 = .ok (.getfield 244, 3) := by decide +kernel
theorem d_M_sumAnew_7 : decode (mC m_M_sumAnew) 7 = .ok (.invokestatic 228, 3) := by decide +kernel
theorem d_M_sumAnew_10 : decode (mC m_M_sumAnew) 10 = .ok (.invokevirtual 251, 3) := by decide +kernel
theorem d_M_sumAnew_13 : decode (mC m_M_sumAnew) 13 = .ok (.ifCond .ne (5), 3) := by decide +kernel
theorem d_M_sumAnew_16 : decode (mC m_M_sumAnew) 16 = .ok (.iconst 0, 1) := by decide +kernel
theorem d_M_sumAnew_17 : decode (mC m_M_sumAnew) 17 = .ok (.ireturn, 1) := by decide +kernel
theorem d_M_sumAnew_18 : decode (mC m_M_sumAnew) 18 = .ok (.bipush (7), 2) := by decide +kernel
theorem d_M_sumAnew_20 : decode (mC m_M_sumAnew) 20 = .ok (.istore_n 2, 1) := by decide +kernel
theorem d_M_sumAnew_21 : decode (mC m_M_sumAnew) 21 = .ok (.iconst 0, 1) := by decide +kernel
theorem d_M_sumAnew_22 : decode (mC m_M_sumAnew) 22 = .ok (.istore_n 3, 1) := by decide +kernel
theorem d_M_sumAnew_23 : decode (mC m_M_sumAnew) 23 = .ok (.iload_n 3, 1) := by decide +kernel
theorem d_M_sumAnew_24 : decode (mC m_M_sumAnew) 24 = .ok (.iload_n 1, 1) := by decide +kernel
theorem d_M_sumAnew_25 : decode (mC m_M_sumAnew) 25 = .ok (.if_icmp .ge (41), 3) := by decide +kernel
theorem d_M_sumAnew_28 : decode (mC m_M_sumAnew) 28 = .ok (.bipush (31), 2) := by decide +kernel
theorem d_M_sumAnew_30 : decode (mC m_M_sumAnew) 30 = .ok (.iload_n 2, 1) := by decide +kernel
theorem d_M_sumAnew_31 : decode (mC m_M_sumAnew) 31 = .ok (.imul, 1) := by decide +kernel
theorem d_M_sumAnew_32 : decode (mC m_M_sumAnew) 32 = .ok (.bipush (100), 2) := by decide +kernel
theorem d_M_sumAnew_34 : decode (mC m_M_sumAnew) 34 = .ok (.aload_n 0, 1) := by decide +kernel
theorem d_M_sumAnew_35 : decode (mC m_M_sumAnew) 35 = .ok (.getfield 213, 3) := by decide +kernel
theorem d_M_sumAnew_38 : decode (mC m_M_sumAnew) 38 = .ok (.iload_n 3, 1) := by decide +kernel
theorem d_M_sumAnew_39 : decode (mC m_M_sumAnew) 39 = .ok (.iaload, 1) := by decide +kernel
theorem d_M_sumAnew_40 : decode (mC m_M_sumAnew) 40 = .ok (.imul, 1) := by decide +kernel
theorem d_M_sumAnew_41 : decode (mC m_M_sumAnew) 41 = .ok (.iadd, 1) := by decide +kernel
theorem d_M_sumAnew_42 : decode (mC m_M_sumAnew) 42 = .ok (.aload_n 0, 1) := by decide +kernel
theorem d_M_sumAnew_43 : decode (mC m_M_sumAnew) 43 = .ok (.getfield 216, 3) := by decide +kernel
theorem d_M_sumAnew_46 : decode (mC m_M_sumAnew) 46 = .ok (.iload_n 3, 1) := by decide +kernel
theorem d_M_sumAnew_47 : decode (mC m_M_sumAnew) 47 = .ok (.iaload, 1) := by decide +kernel
theorem d_M_sumAnew_48 : decode (mC m_M_sumAnew) 48 = .ok (.iadd, 1) := by decide +kernel
theorem d_M_sumAnew_49 : decode (mC m_M_sumAnew) 49 = .ok (.aload_n 0, 1) := by decide +kernel
theorem d_M_sumAnew_50 : decode (mC m_M_sumAnew) 50 = .ok (.getfield 219, 3) := by decide +kernel
theorem d_M_sumAnew_53 : decode (mC m_M_sumAnew) 53 = .ok (.iload_n 3, 1) := by decide +kernel
theorem d_M_sumAnew_54 : decode (mC m_M_sumAnew) 54 = .ok (.iaload, 1) := by decide +kernel
theorem d_M_sumAnew_55 : decode (mC m_M_sumAnew) 55 = .ok (.iadd, 1) := by decide +kernel
theorem d_M_sumAnew_56 : decode (mC m_M_sumAnew) 56 = .ok (.ldc 250, 2) := by decide +kernel
theorem d_M_sumAnew_58 : decode (mC m_M_sumAnew) 58 = .ok (.irem, 1) := by decide +kernel
theorem d_M_sumAnew_59 : decode (mC m_M_sumAnew) 59 = .ok (.istore_n 2, 1) := by decide +kernel
theorem d_M_sumAnew_60 : decode (mC m_M_sumAnew) 60 = .ok (.iinc 3 (1), 3) := by decide +kernel
theorem d_M_sumAnew_63 : decode (mC m_M_sumAnew) 63 = .ok (.goto (-40), 3) := by decide +kernel
theorem d_M_sumAnew_66 : decode (mC m_M_sumAnew) 66 = .ok (.iload_n 2, 1) := by decide +kernel
theorem d_M_sumAnew_67 : decode (mC m_M_sumAnew) 67 = .ok (.ireturn, 1) := by decide +kernel
