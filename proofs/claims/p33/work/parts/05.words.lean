/-- the words that stay good at every later state -/
def tw_ok : Cond → Bool
  | .fieldLinkNest .. => true
  | .methodLinkNest .. => true
  | .castable .. => true
  | .declares .. => true
  | .arrayOver (.object _) => true
  | .arrayOver (.array _) => true
  | w => goodWord w
def GW : List Cond := lw_tbl.filter tw_ok
theorem gw_t {w : Cond} (i : Nat) (h : tables_1[i]? = some w) (hk : tw_ok w = true) : w ∈ GW := List.mem_filter.mpr ⟨List.mem_append_right _ (List.mem_of_getElem? h), hk⟩
theorem gw_p {q : MethodName × Nat} (h : q ∈ lw_privs) : Cond.selects q.1.cls q.1 q.1 ∈ GW := List.mem_filter.mpr ⟨List.mem_append_left _ (List.mem_map.mpr ⟨q, h, rfl⟩), rfl⟩
theorem kw0 : (Jvm.Cond.initialized "FairyDustLaw") ∈ GW := gw_t 0 (by decide +kernel) rfl
theorem kw1 : (Jvm.Cond.initialized "FairyDust") ∈ GW := gw_t 1 (by decide +kernel) rfl
theorem kw2 : (Jvm.Cond.initialized "java/util/AbstractCollection") ∈ GW := gw_t 2 (by decide +kernel) rfl
theorem kw3 : (Jvm.Cond.initialized "java/util/AbstractList") ∈ GW := gw_t 3 (by decide +kernel) rfl
theorem kw4 : (Jvm.Cond.initialized "java/util/ArrayList") ∈ GW := gw_t 4 (by decide +kernel) rfl
theorem kw5 : (Jvm.Cond.initialized "FairyDust$Wand") ∈ GW := gw_t 5 (by decide +kernel) rfl
theorem kw6 : (Jvm.Cond.initialized "FairyDust$Child") ∈ GW := gw_t 6 (by decide +kernel) rfl
theorem kw7 : (Jvm.Cond.initialized "FairyDustLaw$Sim") ∈ GW := gw_t 7 (by decide +kernel) rfl
theorem kw8 : (Jvm.Cond.initialized "java/lang/Throwable") ∈ GW := gw_t 8 (by decide +kernel) rfl
theorem kw9 : (Jvm.Cond.initialized "java/lang/Exception") ∈ GW := gw_t 9 (by decide +kernel) rfl
theorem kw10 : (Jvm.Cond.initialized "java/lang/RuntimeException") ∈ GW := gw_t 10 (by decide +kernel) rfl
theorem kw11 : (Jvm.Cond.initialized "java/lang/IllegalArgumentException") ∈ GW := gw_t 11 (by decide +kernel) rfl
theorem kw12 : (Jvm.Cond.initialized "java/lang/IllegalStateException") ∈ GW := gw_t 12 (by decide +kernel) rfl
theorem kw13 : (Jvm.Cond.initialized "jdk/internal/util/ArraysSupport") ∈ GW := gw_t 13 (by decide +kernel) rfl
theorem kw14 : (Jvm.Cond.initialized "java/lang/Math") ∈ GW := gw_t 14 (by decide +kernel) rfl
theorem kw15 : (Jvm.Cond.initialized "java/util/Arrays") ∈ GW := gw_t 15 (by decide +kernel) rfl
theorem kw16 : (Jvm.Cond.initialized "java/lang/System") ∈ GW := gw_t 16 (by decide +kernel) rfl
theorem kw17 : (Jvm.Cond.initialized "java/lang/IndexOutOfBoundsException") ∈ GW := gw_t 17 (by decide +kernel) rfl
theorem kw18 : (Jvm.Cond.initialized "java/util/Objects") ∈ GW := gw_t 18 (by decide +kernel) rfl
theorem kw19 : (Jvm.Cond.initialized "jdk/internal/util/Preconditions") ∈ GW := gw_t 19 (by decide +kernel) rfl
theorem kw20 : (Jvm.Cond.classLink "FairyDustLaw" (29 : Nat) "FairyDust") ∈ GW := gw_t 20 (by decide +kernel) rfl
theorem kw21 : (Jvm.Cond.instantiable "FairyDust" (7 : Nat)) ∈ GW := gw_t 21 (by decide +kernel) rfl
theorem kw22 : (Jvm.Cond.methodLink "FairyDustLaw" (68 : Nat) ({ cls := "FairyDust", name := "<init>", desc := "()V" } : Jvm.MethodName)) ∈ GW := gw_t 22 (by decide +kernel) rfl
theorem kw23 : (Jvm.Cond.instanceMethod ({ cls := "FairyDust", name := "<init>", desc := "()V" } : Jvm.MethodName)) ∈ GW := gw_t 23 (by decide +kernel) rfl
theorem kw24 : (Jvm.Cond.code ({ cls := "FairyDust", name := "<init>", desc := "()V" } : Jvm.MethodName) prog_1_method_1_code (1 : Nat) (Option.none : Option Jvm.ClassFile.FieldType)) ∈ GW := gw_t 24 (by decide +kernel) rfl
theorem kw25 : (Jvm.Cond.methodLink "FairyDust" (1 : Nat) ({ cls := "java/lang/Object", name := "<init>", desc := "()V" } : Jvm.MethodName)) ∈ GW := gw_t 25 (by decide +kernel) rfl
theorem kw26 : (Jvm.Cond.instanceMethod ({ cls := "java/lang/Object", name := "<init>", desc := "()V" } : Jvm.MethodName)) ∈ GW := gw_t 26 (by decide +kernel) rfl
theorem kw27 : (Jvm.Cond.code ({ cls := "java/lang/Object", name := "<init>", desc := "()V" } : Jvm.MethodName) object_method_1_code (1 : Nat) (Option.none : Option Jvm.ClassFile.FieldType)) ∈ GW := gw_t 27 (by decide +kernel) rfl
theorem kw28 : (Jvm.Cond.classLink "FairyDust" (7 : Nat) "java/util/ArrayList") ∈ GW := gw_t 28 (by decide +kernel) rfl
theorem kw29 : (Jvm.Cond.instantiable "java/util/ArrayList" (3 : Nat)) ∈ GW := gw_t 29 (by decide +kernel) rfl
theorem kw30 : (Jvm.Cond.methodLink "FairyDust" (9 : Nat) ({ cls := "java/util/ArrayList", name := "<init>", desc := "()V" } : Jvm.MethodName)) ∈ GW := gw_t 30 (by decide +kernel) rfl
theorem kw31 : (Jvm.Cond.instanceMethod ({ cls := "java/util/ArrayList", name := "<init>", desc := "()V" } : Jvm.MethodName)) ∈ GW := gw_t 31 (by decide +kernel) rfl
theorem kw32 : (Jvm.Cond.code ({ cls := "java/util/ArrayList", name := "<init>", desc := "()V" } : Jvm.MethodName) prog_21_method_2_code (1 : Nat) (Option.none : Option Jvm.ClassFile.FieldType)) ∈ GW := gw_t 32 (by decide +kernel) rfl
theorem kw33 : (Jvm.Cond.methodLink "java/util/ArrayList" (1 : Nat) ({ cls := "java/util/AbstractList", name := "<init>", desc := "()V" } : Jvm.MethodName)) ∈ GW := gw_t 33 (by decide +kernel) rfl
theorem kw34 : (Jvm.Cond.instanceMethod ({ cls := "java/util/AbstractList", name := "<init>", desc := "()V" } : Jvm.MethodName)) ∈ GW := gw_t 34 (by decide +kernel) rfl
theorem kw35 : (Jvm.Cond.code ({ cls := "java/util/AbstractList", name := "<init>", desc := "()V" } : Jvm.MethodName) prog_20_method_1_code (1 : Nat) (Option.none : Option Jvm.ClassFile.FieldType)) ∈ GW := gw_t 35 (by decide +kernel) rfl
theorem kw36 : (Jvm.Cond.methodLink "java/util/AbstractList" (1 : Nat) ({ cls := "java/util/AbstractCollection", name := "<init>", desc := "()V" } : Jvm.MethodName)) ∈ GW := gw_t 36 (by decide +kernel) rfl
theorem kw37 : (Jvm.Cond.instanceMethod ({ cls := "java/util/AbstractCollection", name := "<init>", desc := "()V" } : Jvm.MethodName)) ∈ GW := gw_t 37 (by decide +kernel) rfl
theorem kw38 : (Jvm.Cond.code ({ cls := "java/util/AbstractCollection", name := "<init>", desc := "()V" } : Jvm.MethodName) prog_19_method_1_code (1 : Nat) (Option.none : Option Jvm.ClassFile.FieldType)) ∈ GW := gw_t 38 (by decide +kernel) rfl
theorem kw39 : (Jvm.Cond.methodLink "java/util/AbstractCollection" (1 : Nat) ({ cls := "java/lang/Object", name := "<init>", desc := "()V" } : Jvm.MethodName)) ∈ GW := gw_t 39 (by decide +kernel) rfl
theorem kw40 : (Jvm.Cond.fieldLink "java/util/ArrayList" (39 : Nat) "java/util/ArrayList" "DEFAULTCAPACITY_EMPTY_ELEMENTDATA" "[Ljava/lang/Object;") ∈ GW := gw_t 40 (by decide +kernel) rfl
theorem kw42 : (Jvm.Cond.fieldLink "java/util/ArrayList" (9 : Nat) "java/util/ArrayList" "elementData" "[Ljava/lang/Object;") ∈ GW := gw_t 42 (by decide +kernel) rfl
theorem kw43 : (Jvm.Cond.fieldLink "java/util/ArrayList" (48 : Nat) "java/util/ArrayList" "size" "I") ∈ GW := gw_t 43 (by decide +kernel) rfl
theorem kw44 : (Jvm.Cond.fieldLink "java/util/AbstractList" (7 : Nat) "java/util/AbstractList" "modCount" "I") ∈ GW := gw_t 44 (by decide +kernel) rfl
theorem kw45 : (Jvm.Cond.fieldLink "java/util/ArrayList" (63 : Nat) "java/util/ArrayList" "modCount" "I") ∈ GW := gw_t 45 (by decide +kernel) rfl
theorem kw46 : (Jvm.Cond.sameField "java/util/ArrayList" "java/util/AbstractList" "modCount" "I") ∈ GW := gw_t 46 (by decide +kernel) rfl
theorem kw47 : (Jvm.Cond.lays "java/util/ArrayList" "java/util/ArrayList" "elementData" "[Ljava/lang/Object;") ∈ GW := gw_t 47 (by decide +kernel) rfl
theorem kw49 : (Jvm.Cond.lays "java/util/ArrayList" "java/util/ArrayList" "size" "I") ∈ GW := gw_t 49 (by decide +kernel) rfl
theorem kw51 : (Jvm.Cond.lays "java/util/ArrayList" "java/util/AbstractList" "modCount" "I") ∈ GW := gw_t 51 (by decide +kernel) rfl
theorem kw53 : (Jvm.Cond.superclass "java/util/ArrayList" "java/util/AbstractList") ∈ GW := gw_t 53 (by decide +kernel) rfl
theorem kw54 : (Jvm.Cond.classLink "FairyDust" (19 : Nat) "FairyDust$Wand") ∈ GW := gw_t 54 (by decide +kernel) rfl
theorem kw55 : (Jvm.Cond.instantiable "FairyDust$Wand" (4 : Nat)) ∈ GW := gw_t 55 (by decide +kernel) rfl
theorem kw56 : (Jvm.Cond.methodLinkNest "FairyDust" (21 : Nat) ({ cls := "FairyDust$Wand", name := "<init>", desc := "(III)V" } : Jvm.MethodName) "FairyDust") ∈ GW := gw_t 56 (by decide +kernel) rfl
theorem kw57 : (Jvm.Cond.instanceMethod ({ cls := "FairyDust$Wand", name := "<init>", desc := "(III)V" } : Jvm.MethodName)) ∈ GW := gw_t 57 (by decide +kernel) rfl
theorem kw58 : (Jvm.Cond.code ({ cls := "FairyDust$Wand", name := "<init>", desc := "(III)V" } : Jvm.MethodName) prog_3_method_1_code (4 : Nat) (Option.none : Option Jvm.ClassFile.FieldType)) ∈ GW := gw_t 58 (by decide +kernel) rfl
theorem kw59 : (Jvm.Cond.methodLink "FairyDust$Wand" (1 : Nat) ({ cls := "java/lang/Object", name := "<init>", desc := "()V" } : Jvm.MethodName)) ∈ GW := gw_t 59 (by decide +kernel) rfl
theorem kw60 : (Jvm.Cond.fieldLink "FairyDust$Wand" (7 : Nat) "FairyDust$Wand" "number" "I") ∈ GW := gw_t 60 (by decide +kernel) rfl
theorem kw61 : (Jvm.Cond.fieldLinkNest "FairyDust" (75 : Nat) "FairyDust$Wand" "number" "I" "FairyDust") ∈ GW := gw_t 61 (by decide +kernel) rfl
theorem kw62 : (Jvm.Cond.fieldLink "FairyDust$Wand" (13 : Nat) "FairyDust$Wand" "room" "I") ∈ GW := gw_t 62 (by decide +kernel) rfl
theorem kw63 : (Jvm.Cond.fieldLink "FairyDust$Wand" (16 : Nat) "FairyDust$Wand" "falls" "I") ∈ GW := gw_t 63 (by decide +kernel) rfl
theorem kw64 : (Jvm.Cond.fieldLinkNest "FairyDust" (79 : Nat) "FairyDust$Wand" "falls" "I" "FairyDust") ∈ GW := gw_t 64 (by decide +kernel) rfl
theorem kw65 : (Jvm.Cond.fieldLink "FairyDust$Wand" (19 : Nat) "FairyDust$Wand" "dust" "I") ∈ GW := gw_t 65 (by decide +kernel) rfl
theorem kw66 : (Jvm.Cond.fieldLinkNest "FairyDust$Child" (35 : Nat) "FairyDust$Wand" "dust" "I" "FairyDust") ∈ GW := gw_t 66 (by decide +kernel) rfl
theorem kw67 : (Jvm.Cond.fieldLinkNest "FairyDust" (112 : Nat) "FairyDust$Wand" "dust" "I" "FairyDust") ∈ GW := gw_t 67 (by decide +kernel) rfl
theorem kw68 : (Jvm.Cond.lays "FairyDust$Wand" "FairyDust$Wand" "number" "I") ∈ GW := gw_t 68 (by decide +kernel) rfl
theorem kw70 : (Jvm.Cond.lays "FairyDust$Wand" "FairyDust$Wand" "room" "I") ∈ GW := gw_t 70 (by decide +kernel) rfl
theorem kw72 : (Jvm.Cond.lays "FairyDust$Wand" "FairyDust$Wand" "falls" "I") ∈ GW := gw_t 72 (by decide +kernel) rfl
theorem kw74 : (Jvm.Cond.lays "FairyDust$Wand" "FairyDust$Wand" "dust" "I") ∈ GW := gw_t 74 (by decide +kernel) rfl
theorem kw76 : (Jvm.Cond.superclass "FairyDust$Wand" "java/lang/Object") ∈ GW := gw_t 76 (by decide +kernel) rfl
theorem kw77 : (Jvm.Cond.classLink "FairyDust" (28 : Nat) "FairyDust$Child") ∈ GW := gw_t 77 (by decide +kernel) rfl
theorem kw78 : (Jvm.Cond.instantiable "FairyDust$Child" (6 : Nat)) ∈ GW := gw_t 78 (by decide +kernel) rfl
theorem kw79 : (Jvm.Cond.methodLinkNest "FairyDust" (30 : Nat) ({ cls := "FairyDust$Child", name := "<init>", desc := "(LFairyDust$Wand;I)V" } : Jvm.MethodName) "FairyDust") ∈ GW := gw_t 79 (by decide +kernel) rfl
theorem kw80 : (Jvm.Cond.instanceMethod ({ cls := "FairyDust$Child", name := "<init>", desc := "(LFairyDust$Wand;I)V" } : Jvm.MethodName)) ∈ GW := gw_t 80 (by decide +kernel) rfl
theorem kw81 : (Jvm.Cond.code ({ cls := "FairyDust$Child", name := "<init>", desc := "(LFairyDust$Wand;I)V" } : Jvm.MethodName) prog_2_method_1_code (3 : Nat) (Option.none : Option Jvm.ClassFile.FieldType)) ∈ GW := gw_t 81 (by decide +kernel) rfl
theorem kw82 : (Jvm.Cond.methodLink "FairyDust$Child" (3 : Nat) ({ cls := "java/lang/Object", name := "<init>", desc := "()V" } : Jvm.MethodName)) ∈ GW := gw_t 82 (by decide +kernel) rfl
theorem kw83 : (Jvm.Cond.fieldLink "FairyDust$Child" (9 : Nat) "FairyDust$Child" "wand" "LFairyDust$Wand;") ∈ GW := gw_t 83 (by decide +kernel) rfl
theorem kw84 : (Jvm.Cond.fieldLinkNest "FairyDust" (72 : Nat) "FairyDust$Child" "wand" "LFairyDust$Wand;" "FairyDust") ∈ GW := gw_t 84 (by decide +kernel) rfl
theorem kw85 : (Jvm.Cond.fieldLink "FairyDust$Child" (15 : Nat) "FairyDust$Child" "birthday" "I") ∈ GW := gw_t 85 (by decide +kernel) rfl
theorem kw86 : (Jvm.Cond.fieldLinkNest "FairyDust" (127 : Nat) "FairyDust$Child" "birthday" "I" "FairyDust") ∈ GW := gw_t 86 (by decide +kernel) rfl
theorem kw87 : (Jvm.Cond.fieldLink "FairyDust$Child" (22 : Nat) "FairyDust$Child" "burst" "I") ∈ GW := gw_t 87 (by decide +kernel) rfl
theorem kw88 : (Jvm.Cond.fieldLinkNest "FairyDust" (115 : Nat) "FairyDust$Child" "burst" "I" "FairyDust") ∈ GW := gw_t 88 (by decide +kernel) rfl
theorem kw89 : (Jvm.Cond.fieldLink "FairyDust$Child" (25 : Nat) "FairyDust$Child" "punishedHours" "I") ∈ GW := gw_t 89 (by decide +kernel) rfl
theorem kw90 : (Jvm.Cond.fieldLinkNest "FairyDust" (118 : Nat) "FairyDust$Child" "punishedHours" "I" "FairyDust") ∈ GW := gw_t 90 (by decide +kernel) rfl
theorem kw91 : (Jvm.Cond.fieldLink "FairyDust$Child" (28 : Nat) "FairyDust$Child" "marks" "I") ∈ GW := gw_t 91 (by decide +kernel) rfl
theorem kw92 : (Jvm.Cond.fieldLinkNest "FairyDust" (121 : Nat) "FairyDust$Child" "marks" "I" "FairyDust") ∈ GW := gw_t 92 (by decide +kernel) rfl
theorem kw93 : (Jvm.Cond.fieldLink "FairyDust$Child" (19 : Nat) "FairyDust$Child" "punishment" "I") ∈ GW := gw_t 93 (by decide +kernel) rfl
theorem kw94 : (Jvm.Cond.fieldLinkNest "FairyDust" (124 : Nat) "FairyDust$Child" "punishment" "I" "FairyDust") ∈ GW := gw_t 94 (by decide +kernel) rfl
theorem kw95 : (Jvm.Cond.lays "FairyDust$Child" "FairyDust$Child" "wand" "LFairyDust$Wand;") ∈ GW := gw_t 95 (by decide +kernel) rfl
theorem kw97 : (Jvm.Cond.lays "FairyDust$Child" "FairyDust$Child" "birthday" "I") ∈ GW := gw_t 97 (by decide +kernel) rfl
theorem kw99 : (Jvm.Cond.lays "FairyDust$Child" "FairyDust$Child" "burst" "I") ∈ GW := gw_t 99 (by decide +kernel) rfl
theorem kw101 : (Jvm.Cond.lays "FairyDust$Child" "FairyDust$Child" "punishedHours" "I") ∈ GW := gw_t 101 (by decide +kernel) rfl
theorem kw103 : (Jvm.Cond.lays "FairyDust$Child" "FairyDust$Child" "marks" "I") ∈ GW := gw_t 103 (by decide +kernel) rfl
theorem kw105 : (Jvm.Cond.lays "FairyDust$Child" "FairyDust$Child" "punishment" "I") ∈ GW := gw_t 105 (by decide +kernel) rfl
theorem kw107 : (Jvm.Cond.superclass "FairyDust$Child" "java/lang/Object") ∈ GW := gw_t 107 (by decide +kernel) rfl
theorem kw108 : (Jvm.Cond.fieldLink "FairyDust" (10 : Nat) "FairyDust" "wands" "Ljava/util/ArrayList;") ∈ GW := gw_t 108 (by decide +kernel) rfl
theorem kw109 : (Jvm.Cond.fieldLink "FairyDust" (16 : Nat) "FairyDust" "children" "Ljava/util/ArrayList;") ∈ GW := gw_t 109 (by decide +kernel) rfl
theorem kw110 : (Jvm.Cond.fieldLink "FairyDust" (24 : Nat) "FairyDust" "trialWand" "LFairyDust$Wand;") ∈ GW := gw_t 110 (by decide +kernel) rfl
theorem kw111 : (Jvm.Cond.fieldLink "FairyDust" (33 : Nat) "FairyDust" "trialChild" "LFairyDust$Child;") ∈ GW := gw_t 111 (by decide +kernel) rfl
theorem kw112 : (Jvm.Cond.fieldLink "FairyDust" (101 : Nat) "FairyDust" "hour" "I") ∈ GW := gw_t 112 (by decide +kernel) rfl
theorem kw113 : (Jvm.Cond.fieldLink "FairyDust" (89 : Nat) "FairyDust" "granted" "I") ∈ GW := gw_t 113 (by decide +kernel) rfl
theorem kw114 : (Jvm.Cond.fieldLink "FairyDust" (92 : Nat) "FairyDust" "denied" "I") ∈ GW := gw_t 114 (by decide +kernel) rfl
theorem kw115 : (Jvm.Cond.laysFinal "FairyDust" "FairyDust" "wands" "Ljava/util/ArrayList;") ∈ GW := gw_t 115 (by decide +kernel) rfl
theorem kw117 : (Jvm.Cond.laysFinal "FairyDust" "FairyDust" "children" "Ljava/util/ArrayList;") ∈ GW := gw_t 117 (by decide +kernel) rfl
theorem kw119 : (Jvm.Cond.laysFinal "FairyDust" "FairyDust" "trialWand" "LFairyDust$Wand;") ∈ GW := gw_t 119 (by decide +kernel) rfl
theorem kw121 : (Jvm.Cond.laysFinal "FairyDust" "FairyDust" "trialChild" "LFairyDust$Child;") ∈ GW := gw_t 121 (by decide +kernel) rfl
theorem kw123 : (Jvm.Cond.lays "FairyDust" "FairyDust" "hour" "I") ∈ GW := gw_t 123 (by decide +kernel) rfl
theorem kw125 : (Jvm.Cond.lays "FairyDust" "FairyDust" "granted" "I") ∈ GW := gw_t 125 (by decide +kernel) rfl
theorem kw127 : (Jvm.Cond.lays "FairyDust" "FairyDust" "denied" "I") ∈ GW := gw_t 127 (by decide +kernel) rfl
theorem kw129 : (Jvm.Cond.superclass "FairyDust" "java/lang/Object") ∈ GW := gw_t 129 (by decide +kernel) rfl
theorem kw130 : (Jvm.Cond.methodLink "FairyDustLaw" (54 : Nat) ({ cls := "FairyDust", name := "wish", desc := "(II)Z" } : Jvm.MethodName)) ∈ GW := gw_t 130 (by decide +kernel) rfl
theorem kw131 : (Jvm.Cond.instanceMethod ({ cls := "FairyDust", name := "wish", desc := "(II)Z" } : Jvm.MethodName)) ∈ GW := gw_t 131 (by decide +kernel) rfl
theorem kw132 : (Jvm.Cond.selects "FairyDust" ({ cls := "FairyDust", name := "wish", desc := "(II)Z" } : Jvm.MethodName) ({ cls := "FairyDust", name := "wish", desc := "(II)Z" } : Jvm.MethodName)) ∈ GW := gw_t 132 (by decide +kernel) rfl
theorem kw133 : (Jvm.Cond.code ({ cls := "FairyDust", name := "wish", desc := "(II)Z" } : Jvm.MethodName) prog_1_method_6_code (5 : Nat) (Option.some Jvm.ClassFile.FieldType.boolean)) ∈ GW := gw_t 133 (by decide +kernel) rfl
theorem kw134 : (Jvm.Cond.methodLink "FairyDust" (68 : Nat) ({ cls := "FairyDust", name := "childAt", desc := "(I)LFairyDust$Child;" } : Jvm.MethodName)) ∈ GW := gw_t 134 (by decide +kernel) rfl
theorem kw136 : (Jvm.Cond.instanceMethod ({ cls := "FairyDust", name := "childAt", desc := "(I)LFairyDust$Child;" } : Jvm.MethodName)) ∈ GW := gw_t 136 (by decide +kernel) rfl
theorem kw137 : (Jvm.Cond.code ({ cls := "FairyDust", name := "childAt", desc := "(I)LFairyDust$Child;" } : Jvm.MethodName) prog_1_method_40_code (2 : Nat) (Option.some (Jvm.ClassFile.FieldType.object "FairyDust$Child"))) ∈ GW := gw_t 137 (by decide +kernel) rfl
theorem kw138 : (Jvm.Cond.methodLink "FairyDust" (40 : Nat) ({ cls := "java/util/ArrayList", name := "size", desc := "()I" } : Jvm.MethodName)) ∈ GW := gw_t 138 (by decide +kernel) rfl
theorem kw139 : (Jvm.Cond.instanceMethod ({ cls := "java/util/ArrayList", name := "size", desc := "()I" } : Jvm.MethodName)) ∈ GW := gw_t 139 (by decide +kernel) rfl
theorem kw140 : (Jvm.Cond.selects "java/util/ArrayList" ({ cls := "java/util/ArrayList", name := "size", desc := "()I" } : Jvm.MethodName) ({ cls := "java/util/ArrayList", name := "size", desc := "()I" } : Jvm.MethodName)) ∈ GW := gw_t 140 (by decide +kernel) rfl
theorem kw141 : (Jvm.Cond.code ({ cls := "java/util/ArrayList", name := "size", desc := "()I" } : Jvm.MethodName) prog_21_method_8_code (1 : Nat) (Option.some Jvm.ClassFile.FieldType.int)) ∈ GW := gw_t 141 (by decide +kernel) rfl
theorem kw142 : (Jvm.Cond.classLink "FairyDust" (244 : Nat) "java/lang/IndexOutOfBoundsException") ∈ GW := gw_t 142 (by decide +kernel) rfl
theorem kw143 : (Jvm.Cond.instantiable "java/lang/IndexOutOfBoundsException" (6 : Nat)) ∈ GW := gw_t 143 (by decide +kernel) rfl
theorem kw144 : (Jvm.Cond.castable "java/lang/IndexOutOfBoundsException" "java/lang/IndexOutOfBoundsException") ∈ GW := gw_t 144 (by decide +kernel) rfl
theorem kw151 : (Jvm.Cond.selects "java/lang/IndexOutOfBoundsException" ({ cls := "java/lang/Throwable", name := "fillInStackTrace", desc := "(I)Ljava/lang/Throwable;" } : Jvm.MethodName) ({ cls := "java/lang/Throwable", name := "fillInStackTrace", desc := "(I)Ljava/lang/Throwable;" } : Jvm.MethodName)) ∈ GW := gw_t 151 (by decide +kernel) rfl
theorem kw152 : (Jvm.Cond.selects "java/lang/IndexOutOfBoundsException" ({ cls := "java/lang/Throwable", name := "fillInStackTrace", desc := "()Ljava/lang/Throwable;" } : Jvm.MethodName) ({ cls := "java/lang/Throwable", name := "fillInStackTrace", desc := "()Ljava/lang/Throwable;" } : Jvm.MethodName)) ∈ GW := gw_t 152 (by decide +kernel) rfl
theorem kw153 : (Jvm.Cond.lays "java/lang/IndexOutOfBoundsException" "java/lang/Throwable" "cause" "Ljava/lang/Throwable;") ∈ GW := gw_t 153 (by decide +kernel) rfl
theorem kw154 : (Jvm.Cond.lays "java/lang/Throwable" "java/lang/Throwable" "cause" "Ljava/lang/Throwable;") ∈ GW := gw_t 154 (by decide +kernel) rfl
theorem kw155 : (Jvm.Cond.lays "java/lang/IndexOutOfBoundsException" "java/lang/Throwable" "stackTrace" "[Ljava/lang/StackTraceElement;") ∈ GW := gw_t 155 (by decide +kernel) rfl
theorem kw156 : (Jvm.Cond.lays "java/lang/Throwable" "java/lang/Throwable" "stackTrace" "[Ljava/lang/StackTraceElement;") ∈ GW := gw_t 156 (by decide +kernel) rfl
theorem kw157 : (Jvm.Cond.lays "java/lang/IndexOutOfBoundsException" "java/lang/Throwable" "suppressedExceptions" "Ljava/util/List;") ∈ GW := gw_t 157 (by decide +kernel) rfl
theorem kw158 : (Jvm.Cond.lays "java/lang/Throwable" "java/lang/Throwable" "suppressedExceptions" "Ljava/util/List;") ∈ GW := gw_t 158 (by decide +kernel) rfl
theorem kw159 : (Jvm.Cond.lays "java/lang/IndexOutOfBoundsException" "java/lang/Throwable" "detailMessage" "Ljava/lang/String;") ∈ GW := gw_t 159 (by decide +kernel) rfl
theorem kw160 : (Jvm.Cond.lays "java/lang/Throwable" "java/lang/Throwable" "detailMessage" "Ljava/lang/String;") ∈ GW := gw_t 160 (by decide +kernel) rfl
theorem kw161 : (Jvm.Cond.lays "java/lang/IndexOutOfBoundsException" "java/lang/Throwable" "backtrace" "Ljava/lang/Object;") ∈ GW := gw_t 161 (by decide +kernel) rfl
theorem kw162 : (Jvm.Cond.lays "java/lang/Throwable" "java/lang/Throwable" "backtrace" "Ljava/lang/Object;") ∈ GW := gw_t 162 (by decide +kernel) rfl
theorem kw163 : (Jvm.Cond.fieldLink "java/lang/Throwable" (198 : Nat) "java/lang/Throwable" "backtrace" "Ljava/lang/Object;") ∈ GW := gw_t 163 (by decide +kernel) rfl
theorem kw164 : (Jvm.Cond.superclass "java/lang/Throwable" "java/lang/Object") ∈ GW := gw_t 164 (by decide +kernel) rfl
theorem kw165 : (Jvm.Cond.instanceMethod ({ cls := "java/lang/Throwable", name := "<init>", desc := "()V" } : Jvm.MethodName)) ∈ GW := gw_t 165 (by decide +kernel) rfl
theorem kw166 : (Jvm.Cond.code ({ cls := "java/lang/Throwable", name := "<init>", desc := "()V" } : Jvm.MethodName) prog_18_method_1_code (1 : Nat) (Option.none : Option Jvm.ClassFile.FieldType)) ∈ GW := gw_t 166 (by decide +kernel) rfl
theorem kw167 : (Jvm.Cond.methodLink "java/lang/Throwable" (1 : Nat) ({ cls := "java/lang/Object", name := "<init>", desc := "()V" } : Jvm.MethodName)) ∈ GW := gw_t 167 (by decide +kernel) rfl
theorem kw168 : (Jvm.Cond.fieldLink "java/lang/Throwable" (13 : Nat) "java/lang/Throwable" "UNASSIGNED_STACK" "[Ljava/lang/StackTraceElement;") ∈ GW := gw_t 168 (by decide +kernel) rfl
theorem kw170 : (Jvm.Cond.fieldLink "java/lang/Throwable" (20 : Nat) "java/lang/Throwable" "SUPPRESSED_SENTINEL" "Ljava/util/List;") ∈ GW := gw_t 170 (by decide +kernel) rfl
theorem kw172 : (Jvm.Cond.methodLink "java/lang/Throwable" (27 : Nat) ({ cls := "java/lang/Throwable", name := "fillInStackTrace", desc := "()Ljava/lang/Throwable;" } : Jvm.MethodName)) ∈ GW := gw_t 172 (by decide +kernel) rfl
theorem kw173 : (Jvm.Cond.instanceMethod ({ cls := "java/lang/Throwable", name := "fillInStackTrace", desc := "()Ljava/lang/Throwable;" } : Jvm.MethodName)) ∈ GW := gw_t 173 (by decide +kernel) rfl
theorem kw174 : (Jvm.Cond.sameMethod "java/lang/Throwable" "java/lang/Throwable" "fillInStackTrace" "()Ljava/lang/Throwable;") ∈ GW := gw_t 174 (by decide +kernel) rfl
theorem kw175 : (Jvm.Cond.selects "java/lang/IllegalArgumentException" ({ cls := "java/lang/Throwable", name := "fillInStackTrace", desc := "()Ljava/lang/Throwable;" } : Jvm.MethodName) ({ cls := "java/lang/Throwable", name := "fillInStackTrace", desc := "()Ljava/lang/Throwable;" } : Jvm.MethodName)) ∈ GW := gw_t 175 (by decide +kernel) rfl
theorem kw176 : (Jvm.Cond.selects "java/lang/IllegalStateException" ({ cls := "java/lang/Throwable", name := "fillInStackTrace", desc := "()Ljava/lang/Throwable;" } : Jvm.MethodName) ({ cls := "java/lang/Throwable", name := "fillInStackTrace", desc := "()Ljava/lang/Throwable;" } : Jvm.MethodName)) ∈ GW := gw_t 176 (by decide +kernel) rfl
theorem kw178 : (Jvm.Cond.methodLink "java/lang/Throwable" (202 : Nat) ({ cls := "java/lang/Throwable", name := "fillInStackTrace", desc := "(I)Ljava/lang/Throwable;" } : Jvm.MethodName)) ∈ GW := gw_t 178 (by decide +kernel) rfl
theorem kw180 : (Jvm.Cond.instanceMethod ({ cls := "java/lang/Throwable", name := "fillInStackTrace", desc := "(I)Ljava/lang/Throwable;" } : Jvm.MethodName)) ∈ GW := gw_t 180 (by decide +kernel) rfl
theorem kw181 : (Jvm.Cond.instantiable "java/lang/Throwable" (6 : Nat)) ∈ GW := gw_t 181 (by decide +kernel) rfl
theorem kw182 : (Jvm.Cond.native ({ cls := "java/lang/Throwable", name := "fillInStackTrace", desc := "(I)Ljava/lang/Throwable;" } : Jvm.MethodName)) ∈ GW := gw_t 182 (by decide +kernel) rfl
theorem kw184 : (Jvm.Cond.methodLink "FairyDust" (248 : Nat) ({ cls := "java/lang/IndexOutOfBoundsException", name := "<init>", desc := "(Ljava/lang/String;)V" } : Jvm.MethodName)) ∈ GW := gw_t 184 (by decide +kernel) rfl
theorem kw185 : (Jvm.Cond.instanceMethod ({ cls := "java/lang/IndexOutOfBoundsException", name := "<init>", desc := "(Ljava/lang/String;)V" } : Jvm.MethodName)) ∈ GW := gw_t 185 (by decide +kernel) rfl
theorem kw186 : (Jvm.Cond.code ({ cls := "java/lang/IndexOutOfBoundsException", name := "<init>", desc := "(Ljava/lang/String;)V" } : Jvm.MethodName) prog_12_method_2_code (2 : Nat) (Option.none : Option Jvm.ClassFile.FieldType)) ∈ GW := gw_t 186 (by decide +kernel) rfl
theorem kw187 : (Jvm.Cond.methodLink "java/lang/IndexOutOfBoundsException" (7 : Nat) ({ cls := "java/lang/RuntimeException", name := "<init>", desc := "(Ljava/lang/String;)V" } : Jvm.MethodName)) ∈ GW := gw_t 187 (by decide +kernel) rfl
theorem kw188 : (Jvm.Cond.instanceMethod ({ cls := "java/lang/RuntimeException", name := "<init>", desc := "(Ljava/lang/String;)V" } : Jvm.MethodName)) ∈ GW := gw_t 188 (by decide +kernel) rfl
theorem kw189 : (Jvm.Cond.code ({ cls := "java/lang/RuntimeException", name := "<init>", desc := "(Ljava/lang/String;)V" } : Jvm.MethodName) prog_15_method_2_code (2 : Nat) (Option.none : Option Jvm.ClassFile.FieldType)) ∈ GW := gw_t 189 (by decide +kernel) rfl
theorem kw190 : (Jvm.Cond.methodLink "java/lang/RuntimeException" (7 : Nat) ({ cls := "java/lang/Exception", name := "<init>", desc := "(Ljava/lang/String;)V" } : Jvm.MethodName)) ∈ GW := gw_t 190 (by decide +kernel) rfl
theorem kw191 : (Jvm.Cond.instanceMethod ({ cls := "java/lang/Exception", name := "<init>", desc := "(Ljava/lang/String;)V" } : Jvm.MethodName)) ∈ GW := gw_t 191 (by decide +kernel) rfl
theorem kw192 : (Jvm.Cond.code ({ cls := "java/lang/Exception", name := "<init>", desc := "(Ljava/lang/String;)V" } : Jvm.MethodName) prog_9_method_2_code (2 : Nat) (Option.none : Option Jvm.ClassFile.FieldType)) ∈ GW := gw_t 192 (by decide +kernel) rfl
theorem kw193 : (Jvm.Cond.methodLink "java/lang/Exception" (7 : Nat) ({ cls := "java/lang/Throwable", name := "<init>", desc := "(Ljava/lang/String;)V" } : Jvm.MethodName)) ∈ GW := gw_t 193 (by decide +kernel) rfl
theorem kw194 : (Jvm.Cond.instanceMethod ({ cls := "java/lang/Throwable", name := "<init>", desc := "(Ljava/lang/String;)V" } : Jvm.MethodName)) ∈ GW := gw_t 194 (by decide +kernel) rfl
theorem kw195 : (Jvm.Cond.code ({ cls := "java/lang/Throwable", name := "<init>", desc := "(Ljava/lang/String;)V" } : Jvm.MethodName) prog_18_method_2_code (2 : Nat) (Option.none : Option Jvm.ClassFile.FieldType)) ∈ GW := gw_t 195 (by decide +kernel) rfl
theorem kw196 : (Jvm.Cond.fieldLink "java/lang/Throwable" (198 : Nat) "java/lang/Throwable" "backtrace" "Ljava/lang/Object;") ∈ GW := gw_t 196 (by decide +kernel) rfl
theorem kw197 : (Jvm.Cond.fieldLink "java/lang/Throwable" (31 : Nat) "java/lang/Throwable" "detailMessage" "Ljava/lang/String;") ∈ GW := gw_t 197 (by decide +kernel) rfl
theorem kw198 : (Jvm.Cond.fieldLink "java/lang/Throwable" (7 : Nat) "java/lang/Throwable" "cause" "Ljava/lang/Throwable;") ∈ GW := gw_t 198 (by decide +kernel) rfl
theorem kw199 : (Jvm.Cond.fieldLink "java/lang/Throwable" (17 : Nat) "java/lang/Throwable" "stackTrace" "[Ljava/lang/StackTraceElement;") ∈ GW := gw_t 199 (by decide +kernel) rfl
theorem kw200 : (Jvm.Cond.fieldLink "java/lang/Throwable" (24 : Nat) "java/lang/Throwable" "suppressedExceptions" "Ljava/util/List;") ∈ GW := gw_t 200 (by decide +kernel) rfl
theorem kw205 : (Jvm.Cond.lays "java/lang/IndexOutOfBoundsException" "java/lang/Throwable" "depth" "I") ∈ GW := gw_t 205 (by decide +kernel) rfl
theorem kw208 : (Jvm.Cond.superclass "java/lang/IndexOutOfBoundsException" "java/lang/RuntimeException") ∈ GW := gw_t 208 (by decide +kernel) rfl
theorem kw209 : (Jvm.Cond.arrayClass Jvm.ClassFile.FieldType.byte) ∈ GW := gw_t 209 (by decide +kernel) rfl
theorem kw210 : (Jvm.Cond.methodLink "FairyDust" (104 : Nat) ({ cls := "java/util/ArrayList", name := "get", desc := "(I)Ljava/lang/Object;" } : Jvm.MethodName)) ∈ GW := gw_t 210 (by decide +kernel) rfl
theorem kw211 : (Jvm.Cond.instanceMethod ({ cls := "java/util/ArrayList", name := "get", desc := "(I)Ljava/lang/Object;" } : Jvm.MethodName)) ∈ GW := gw_t 211 (by decide +kernel) rfl
theorem kw212 : (Jvm.Cond.selects "java/util/ArrayList" ({ cls := "java/util/ArrayList", name := "get", desc := "(I)Ljava/lang/Object;" } : Jvm.MethodName) ({ cls := "java/util/ArrayList", name := "get", desc := "(I)Ljava/lang/Object;" } : Jvm.MethodName)) ∈ GW := gw_t 212 (by decide +kernel) rfl
theorem kw213 : (Jvm.Cond.code ({ cls := "java/util/ArrayList", name := "get", desc := "(I)Ljava/lang/Object;" } : Jvm.MethodName) prog_21_method_20_code (2 : Nat) (Option.some (Jvm.ClassFile.FieldType.object "java/lang/Object"))) ∈ GW := gw_t 213 (by decide +kernel) rfl
theorem kw214 : (Jvm.Cond.methodLink "java/util/ArrayList" (118 : Nat) ({ cls := "java/util/Objects", name := "checkIndex", desc := "(II)I" } : Jvm.MethodName)) ∈ GW := gw_t 214 (by decide +kernel) rfl
theorem kw215 : (Jvm.Cond.static ({ cls := "java/util/Objects", name := "checkIndex", desc := "(II)I" } : Jvm.MethodName)) ∈ GW := gw_t 215 (by decide +kernel) rfl
theorem kw216 : (Jvm.Cond.code ({ cls := "java/util/Objects", name := "checkIndex", desc := "(II)I" } : Jvm.MethodName) prog_25_method_17_code (2 : Nat) (Option.some Jvm.ClassFile.FieldType.int)) ∈ GW := gw_t 216 (by decide +kernel) rfl
theorem kw217 : (Jvm.Cond.methodLink "java/util/Objects" (105 : Nat) ({ cls := "jdk/internal/util/Preconditions", name := "checkIndex", desc := "(IILjava/util/function/BiFunction;)I" } : Jvm.MethodName)) ∈ GW := gw_t 217 (by decide +kernel) rfl
theorem kw218 : (Jvm.Cond.static ({ cls := "jdk/internal/util/Preconditions", name := "checkIndex", desc := "(IILjava/util/function/BiFunction;)I" } : Jvm.MethodName)) ∈ GW := gw_t 218 (by decide +kernel) rfl
theorem kw219 : (Jvm.Cond.code ({ cls := "jdk/internal/util/Preconditions", name := "checkIndex", desc := "(IILjava/util/function/BiFunction;)I" } : Jvm.MethodName) prog_29_method_11_code (3 : Nat) (Option.some Jvm.ClassFile.FieldType.int)) ∈ GW := gw_t 219 (by decide +kernel) rfl
theorem kw220 : (Jvm.Cond.methodLink "java/util/ArrayList" (123 : Nat) ({ cls := "java/util/ArrayList", name := "elementData", desc := "(I)Ljava/lang/Object;" } : Jvm.MethodName)) ∈ GW := gw_t 220 (by decide +kernel) rfl
theorem kw221 : (Jvm.Cond.instanceMethod ({ cls := "java/util/ArrayList", name := "elementData", desc := "(I)Ljava/lang/Object;" } : Jvm.MethodName)) ∈ GW := gw_t 221 (by decide +kernel) rfl
theorem kw222 : (Jvm.Cond.selects "java/util/ArrayList" ({ cls := "java/util/ArrayList", name := "elementData", desc := "(I)Ljava/lang/Object;" } : Jvm.MethodName) ({ cls := "java/util/ArrayList", name := "elementData", desc := "(I)Ljava/lang/Object;" } : Jvm.MethodName)) ∈ GW := gw_t 222 (by decide +kernel) rfl
theorem kw223 : (Jvm.Cond.code ({ cls := "java/util/ArrayList", name := "elementData", desc := "(I)Ljava/lang/Object;" } : Jvm.MethodName) prog_21_method_18_code (2 : Nat) (Option.some (Jvm.ClassFile.FieldType.object "java/lang/Object"))) ∈ GW := gw_t 223 (by decide +kernel) rfl
theorem kw224 : (Jvm.Cond.methodLink "FairyDust" (82 : Nat) ({ cls := "FairyDust", name := "needSize", desc := "(I)V" } : Jvm.MethodName)) ∈ GW := gw_t 224 (by decide +kernel) rfl
theorem kw225 : (Jvm.Cond.static ({ cls := "FairyDust", name := "needSize", desc := "(I)V" } : Jvm.MethodName)) ∈ GW := gw_t 225 (by decide +kernel) rfl
theorem kw226 : (Jvm.Cond.code ({ cls := "FairyDust", name := "needSize", desc := "(I)V" } : Jvm.MethodName) prog_1_method_41_code (1 : Nat) (Option.none : Option Jvm.ClassFile.FieldType)) ∈ GW := gw_t 226 (by decide +kernel) rfl
theorem kw227 : (Jvm.Cond.methodLink "FairyDust" (37 : Nat) ({ cls := "FairyDust", name := "needWithin", desc := "(III)V" } : Jvm.MethodName)) ∈ GW := gw_t 227 (by decide +kernel) rfl
theorem kw228 : (Jvm.Cond.static ({ cls := "FairyDust", name := "needWithin", desc := "(III)V" } : Jvm.MethodName)) ∈ GW := gw_t 228 (by decide +kernel) rfl
theorem kw229 : (Jvm.Cond.code ({ cls := "FairyDust", name := "needWithin", desc := "(III)V" } : Jvm.MethodName) prog_1_method_42_code (3 : Nat) (Option.none : Option Jvm.ClassFile.FieldType)) ∈ GW := gw_t 229 (by decide +kernel) rfl
theorem kw230 : (Jvm.Cond.classLink "FairyDust" (251 : Nat) "java/lang/IllegalArgumentException") ∈ GW := gw_t 230 (by decide +kernel) rfl
theorem kw231 : (Jvm.Cond.instantiable "java/lang/IllegalArgumentException" (6 : Nat)) ∈ GW := gw_t 231 (by decide +kernel) rfl
theorem kw232 : (Jvm.Cond.castable "java/lang/IllegalArgumentException" "java/lang/IllegalArgumentException") ∈ GW := gw_t 232 (by decide +kernel) rfl
theorem kw233 : (Jvm.Cond.selects "java/lang/IllegalArgumentException" ({ cls := "java/lang/Throwable", name := "fillInStackTrace", desc := "(I)Ljava/lang/Throwable;" } : Jvm.MethodName) ({ cls := "java/lang/Throwable", name := "fillInStackTrace", desc := "(I)Ljava/lang/Throwable;" } : Jvm.MethodName)) ∈ GW := gw_t 233 (by decide +kernel) rfl
theorem kw234 : (Jvm.Cond.lays "java/lang/IllegalArgumentException" "java/lang/Throwable" "cause" "Ljava/lang/Throwable;") ∈ GW := gw_t 234 (by decide +kernel) rfl
theorem kw235 : (Jvm.Cond.lays "java/lang/IllegalArgumentException" "java/lang/Throwable" "stackTrace" "[Ljava/lang/StackTraceElement;") ∈ GW := gw_t 235 (by decide +kernel) rfl
theorem kw236 : (Jvm.Cond.lays "java/lang/IllegalArgumentException" "java/lang/Throwable" "suppressedExceptions" "Ljava/util/List;") ∈ GW := gw_t 236 (by decide +kernel) rfl
theorem kw237 : (Jvm.Cond.lays "java/lang/IllegalArgumentException" "java/lang/Throwable" "detailMessage" "Ljava/lang/String;") ∈ GW := gw_t 237 (by decide +kernel) rfl
theorem kw238 : (Jvm.Cond.lays "java/lang/IllegalArgumentException" "java/lang/Throwable" "backtrace" "Ljava/lang/Object;") ∈ GW := gw_t 238 (by decide +kernel) rfl
theorem kw240 : (Jvm.Cond.methodLink "FairyDust" (255 : Nat) ({ cls := "java/lang/IllegalArgumentException", name := "<init>", desc := "(Ljava/lang/String;)V" } : Jvm.MethodName)) ∈ GW := gw_t 240 (by decide +kernel) rfl
theorem kw241 : (Jvm.Cond.instanceMethod ({ cls := "java/lang/IllegalArgumentException", name := "<init>", desc := "(Ljava/lang/String;)V" } : Jvm.MethodName)) ∈ GW := gw_t 241 (by decide +kernel) rfl
theorem kw242 : (Jvm.Cond.code ({ cls := "java/lang/IllegalArgumentException", name := "<init>", desc := "(Ljava/lang/String;)V" } : Jvm.MethodName) prog_10_method_2_code (2 : Nat) (Option.none : Option Jvm.ClassFile.FieldType)) ∈ GW := gw_t 242 (by decide +kernel) rfl
theorem kw243 : (Jvm.Cond.methodLink "java/lang/IllegalArgumentException" (7 : Nat) ({ cls := "java/lang/RuntimeException", name := "<init>", desc := "(Ljava/lang/String;)V" } : Jvm.MethodName)) ∈ GW := gw_t 243 (by decide +kernel) rfl
theorem kw244 : (Jvm.Cond.lays "java/lang/IllegalArgumentException" "java/lang/Throwable" "depth" "I") ∈ GW := gw_t 244 (by decide +kernel) rfl
theorem kw245 : (Jvm.Cond.superclass "java/lang/IllegalArgumentException" "java/lang/RuntimeException") ∈ GW := gw_t 245 (by decide +kernel) rfl
theorem kw246 : (Jvm.Cond.methodLinkNest "FairyDust" (85 : Nat) ({ cls := "FairyDust$Child", name := "makeWish", desc := "(I)Z" } : Jvm.MethodName) "FairyDust") ∈ GW := gw_t 246 (by decide +kernel) rfl
theorem kw248 : (Jvm.Cond.instanceMethod ({ cls := "FairyDust$Child", name := "makeWish", desc := "(I)Z" } : Jvm.MethodName)) ∈ GW := gw_t 248 (by decide +kernel) rfl
theorem kw249 : (Jvm.Cond.code ({ cls := "FairyDust$Child", name := "makeWish", desc := "(I)Z" } : Jvm.MethodName) prog_2_method_7_code (2 : Nat) (Option.some Jvm.ClassFile.FieldType.boolean)) ∈ GW := gw_t 249 (by decide +kernel) rfl
theorem kw250 : (Jvm.Cond.methodLink "FairyDust$Child" (50 : Nat) ({ cls := "FairyDust$Child", name := "canHave", desc := "(I)Z" } : Jvm.MethodName)) ∈ GW := gw_t 250 (by decide +kernel) rfl
theorem kw252 : (Jvm.Cond.instanceMethod ({ cls := "FairyDust$Child", name := "canHave", desc := "(I)Z" } : Jvm.MethodName)) ∈ GW := gw_t 252 (by decide +kernel) rfl
theorem kw253 : (Jvm.Cond.code ({ cls := "FairyDust$Child", name := "canHave", desc := "(I)Z" } : Jvm.MethodName) prog_2_method_5_code (2 : Nat) (Option.some Jvm.ClassFile.FieldType.boolean)) ∈ GW := gw_t 253 (by decide +kernel) rfl
theorem kw254 : (Jvm.Cond.methodLink "FairyDust$Child" (40 : Nat) ({ cls := "FairyDust$Child", name := "grainsAtHand", desc := "()I" } : Jvm.MethodName)) ∈ GW := gw_t 254 (by decide +kernel) rfl
theorem kw256 : (Jvm.Cond.instanceMethod ({ cls := "FairyDust$Child", name := "grainsAtHand", desc := "()I" } : Jvm.MethodName)) ∈ GW := gw_t 256 (by decide +kernel) rfl
theorem kw257 : (Jvm.Cond.code ({ cls := "FairyDust$Child", name := "grainsAtHand", desc := "()I" } : Jvm.MethodName) prog_2_method_4_code (1 : Nat) (Option.some Jvm.ClassFile.FieldType.int)) ∈ GW := gw_t 257 (by decide +kernel) rfl
theorem kw258 : (Jvm.Cond.methodLink "FairyDust$Child" (31 : Nat) ({ cls := "FairyDust$Child", name := "isPunished", desc := "()Z" } : Jvm.MethodName)) ∈ GW := gw_t 258 (by decide +kernel) rfl
theorem kw260 : (Jvm.Cond.instanceMethod ({ cls := "FairyDust$Child", name := "isPunished", desc := "()Z" } : Jvm.MethodName)) ∈ GW := gw_t 260 (by decide +kernel) rfl
theorem kw261 : (Jvm.Cond.code ({ cls := "FairyDust$Child", name := "isPunished", desc := "()Z" } : Jvm.MethodName) prog_2_method_3_code (1 : Nat) (Option.some Jvm.ClassFile.FieldType.boolean)) ∈ GW := gw_t 261 (by decide +kernel) rfl
theorem kw262 : (Jvm.Cond.methodLink "FairyDust$Child" (54 : Nat) ({ cls := "FairyDust$Child", name := "takeGrains", desc := "(I)V" } : Jvm.MethodName)) ∈ GW := gw_t 262 (by decide +kernel) rfl
theorem kw264 : (Jvm.Cond.instanceMethod ({ cls := "FairyDust$Child", name := "takeGrains", desc := "(I)V" } : Jvm.MethodName)) ∈ GW := gw_t 264 (by decide +kernel) rfl
theorem kw265 : (Jvm.Cond.code ({ cls := "FairyDust$Child", name := "takeGrains", desc := "(I)V" } : Jvm.MethodName) prog_2_method_8_code (3 : Nat) (Option.none : Option Jvm.ClassFile.FieldType)) ∈ GW := gw_t 265 (by decide +kernel) rfl
theorem kw266 : (Jvm.Cond.methodLink "FairyDust$Child" (64 : Nat) ({ cls := "FairyDust$Child", name := "dustLeftAfter", desc := "(I)I" } : Jvm.MethodName)) ∈ GW := gw_t 266 (by decide +kernel) rfl
theorem kw268 : (Jvm.Cond.instanceMethod ({ cls := "FairyDust$Child", name := "dustLeftAfter", desc := "(I)I" } : Jvm.MethodName)) ∈ GW := gw_t 268 (by decide +kernel) rfl
theorem kw269 : (Jvm.Cond.code ({ cls := "FairyDust$Child", name := "dustLeftAfter", desc := "(I)I" } : Jvm.MethodName) prog_2_method_6_code (2 : Nat) (Option.some Jvm.ClassFile.FieldType.int)) ∈ GW := gw_t 269 (by decide +kernel) rfl
theorem kw270 : (Jvm.Cond.methodLink "FairyDust$Child" (44 : Nat) ({ cls := "java/lang/Math", name := "max", desc := "(II)I" } : Jvm.MethodName)) ∈ GW := gw_t 270 (by decide +kernel) rfl
theorem kw271 : (Jvm.Cond.static ({ cls := "java/lang/Math", name := "max", desc := "(II)I" } : Jvm.MethodName)) ∈ GW := gw_t 271 (by decide +kernel) rfl
theorem kw272 : (Jvm.Cond.code ({ cls := "java/lang/Math", name := "max", desc := "(II)I" } : Jvm.MethodName) prog_14_method_65_code (2 : Nat) (Option.some Jvm.ClassFile.FieldType.int)) ∈ GW := gw_t 272 (by decide +kernel) rfl
theorem kw273 : (Jvm.Cond.methodLink "FairyDust$Child" (58 : Nat) ({ cls := "java/lang/Math", name := "min", desc := "(II)I" } : Jvm.MethodName)) ∈ GW := gw_t 273 (by decide +kernel) rfl
theorem kw274 : (Jvm.Cond.static ({ cls := "java/lang/Math", name := "min", desc := "(II)I" } : Jvm.MethodName)) ∈ GW := gw_t 274 (by decide +kernel) rfl
theorem kw275 : (Jvm.Cond.code ({ cls := "java/lang/Math", name := "min", desc := "(II)I" } : Jvm.MethodName) prog_14_method_69_code (2 : Nat) (Option.some Jvm.ClassFile.FieldType.int)) ∈ GW := gw_t 275 (by decide +kernel) rfl
theorem kw276 : (Jvm.Cond.methodLink "FairyDust$Child" (61 : Nat) ({ cls := "FairyDust$Child", name := "takeMark", desc := "()V" } : Jvm.MethodName)) ∈ GW := gw_t 276 (by decide +kernel) rfl
theorem kw278 : (Jvm.Cond.instanceMethod ({ cls := "FairyDust$Child", name := "takeMark", desc := "()V" } : Jvm.MethodName)) ∈ GW := gw_t 278 (by decide +kernel) rfl
theorem kw279 : (Jvm.Cond.code ({ cls := "FairyDust$Child", name := "takeMark", desc := "()V" } : Jvm.MethodName) prog_2_method_9_code (1 : Nat) (Option.none : Option Jvm.ClassFile.FieldType)) ∈ GW := gw_t 279 (by decide +kernel) rfl
theorem kw280 : (Jvm.Cond.methodLink "FairyDustLaw" (50 : Nat) ({ cls := "FairyDust", name := "pass", desc := "(I)I" } : Jvm.MethodName)) ∈ GW := gw_t 280 (by decide +kernel) rfl
theorem kw281 : (Jvm.Cond.instanceMethod ({ cls := "FairyDust", name := "pass", desc := "(I)I" } : Jvm.MethodName)) ∈ GW := gw_t 281 (by decide +kernel) rfl
theorem kw282 : (Jvm.Cond.selects "FairyDust" ({ cls := "FairyDust", name := "pass", desc := "(I)I" } : Jvm.MethodName) ({ cls := "FairyDust", name := "pass", desc := "(I)I" } : Jvm.MethodName)) ∈ GW := gw_t 282 (by decide +kernel) rfl
theorem kw283 : (Jvm.Cond.code ({ cls := "FairyDust", name := "pass", desc := "(I)I" } : Jvm.MethodName) prog_1_method_8_code (4 : Nat) (Option.some Jvm.ClassFile.FieldType.int)) ∈ GW := gw_t 283 (by decide +kernel) rfl
theorem kw284 : (Jvm.Cond.methodLink "FairyDust" (98 : Nat) ({ cls := "FairyDust", name := "passOneHour", desc := "()I" } : Jvm.MethodName)) ∈ GW := gw_t 284 (by decide +kernel) rfl
theorem kw286 : (Jvm.Cond.instanceMethod ({ cls := "FairyDust", name := "passOneHour", desc := "()I" } : Jvm.MethodName)) ∈ GW := gw_t 286 (by decide +kernel) rfl
theorem kw287 : (Jvm.Cond.code ({ cls := "FairyDust", name := "passOneHour", desc := "()I" } : Jvm.MethodName) prog_1_method_35_code (3 : Nat) (Option.some Jvm.ClassFile.FieldType.int)) ∈ GW := gw_t 287 (by decide +kernel) rfl
theorem kw288 : (Jvm.Cond.methodLinkNest "FairyDust" (232 : Nat) ({ cls := "FairyDust$Wand", name := "letFall", desc := "()I" } : Jvm.MethodName) "FairyDust") ∈ GW := gw_t 288 (by decide +kernel) rfl
theorem kw290 : (Jvm.Cond.instanceMethod ({ cls := "FairyDust$Wand", name := "letFall", desc := "()I" } : Jvm.MethodName)) ∈ GW := gw_t 290 (by decide +kernel) rfl
theorem kw291 : (Jvm.Cond.code ({ cls := "FairyDust$Wand", name := "letFall", desc := "()I" } : Jvm.MethodName) prog_3_method_3_code (2 : Nat) (Option.some Jvm.ClassFile.FieldType.int)) ∈ GW := gw_t 291 (by decide +kernel) rfl
theorem kw292 : (Jvm.Cond.methodLink "FairyDust$Wand" (22 : Nat) ({ cls := "java/lang/Math", name := "min", desc := "(II)I" } : Jvm.MethodName)) ∈ GW := gw_t 292 (by decide +kernel) rfl
theorem kw293 : (Jvm.Cond.methodLinkNest "FairyDust" (235 : Nat) ({ cls := "FairyDust$Child", name := "liveTo", desc := "(I)V" } : Jvm.MethodName) "FairyDust") ∈ GW := gw_t 293 (by decide +kernel) rfl
theorem kw295 : (Jvm.Cond.instanceMethod ({ cls := "FairyDust$Child", name := "liveTo", desc := "(I)V" } : Jvm.MethodName)) ∈ GW := gw_t 295 (by decide +kernel) rfl
theorem kw296 : (Jvm.Cond.code ({ cls := "FairyDust$Child", name := "liveTo", desc := "(I)V" } : Jvm.MethodName) prog_2_method_11_code (2 : Nat) (Option.none : Option Jvm.ClassFile.FieldType)) ∈ GW := gw_t 296 (by decide +kernel) rfl
theorem kw297 : (Jvm.Cond.methodLink "FairyDust$Child" (68 : Nat) ({ cls := "FairyDust$Child", name := "beginDay", desc := "(I)V" } : Jvm.MethodName)) ∈ GW := gw_t 297 (by decide +kernel) rfl
theorem kw299 : (Jvm.Cond.instanceMethod ({ cls := "FairyDust$Child", name := "beginDay", desc := "(I)V" } : Jvm.MethodName)) ∈ GW := gw_t 299 (by decide +kernel) rfl
theorem kw300 : (Jvm.Cond.code ({ cls := "FairyDust$Child", name := "beginDay", desc := "(I)V" } : Jvm.MethodName) prog_2_method_12_code (2 : Nat) (Option.none : Option Jvm.ClassFile.FieldType)) ∈ GW := gw_t 300 (by decide +kernel) rfl
theorem kw301 : (Jvm.Cond.methodLink "FairyDustLaw" (122 : Nat) ({ cls := "FairyDust", name := "hour", desc := "()I" } : Jvm.MethodName)) ∈ GW := gw_t 301 (by decide +kernel) rfl
theorem kw302 : (Jvm.Cond.instanceMethod ({ cls := "FairyDust", name := "hour", desc := "()I" } : Jvm.MethodName)) ∈ GW := gw_t 302 (by decide +kernel) rfl
theorem kw303 : (Jvm.Cond.selects "FairyDust" ({ cls := "FairyDust", name := "hour", desc := "()I" } : Jvm.MethodName) ({ cls := "FairyDust", name := "hour", desc := "()I" } : Jvm.MethodName)) ∈ GW := gw_t 303 (by decide +kernel) rfl
theorem kw304 : (Jvm.Cond.code ({ cls := "FairyDust", name := "hour", desc := "()I" } : Jvm.MethodName) prog_1_method_9_code (1 : Nat) (Option.some Jvm.ClassFile.FieldType.int)) ∈ GW := gw_t 304 (by decide +kernel) rfl
theorem kw305 : (Jvm.Cond.methodLink "FairyDustLaw" (119 : Nat) ({ cls := "FairyDust", name := "day", desc := "()I" } : Jvm.MethodName)) ∈ GW := gw_t 305 (by decide +kernel) rfl
theorem kw306 : (Jvm.Cond.instanceMethod ({ cls := "FairyDust", name := "day", desc := "()I" } : Jvm.MethodName)) ∈ GW := gw_t 306 (by decide +kernel) rfl
theorem kw307 : (Jvm.Cond.selects "FairyDust" ({ cls := "FairyDust", name := "day", desc := "()I" } : Jvm.MethodName) ({ cls := "FairyDust", name := "day", desc := "()I" } : Jvm.MethodName)) ∈ GW := gw_t 307 (by decide +kernel) rfl
theorem kw308 : (Jvm.Cond.code ({ cls := "FairyDust", name := "day", desc := "()I" } : Jvm.MethodName) prog_1_method_10_code (1 : Nat) (Option.some Jvm.ClassFile.FieldType.int)) ∈ GW := gw_t 308 (by decide +kernel) rfl
theorem kw309 : (Jvm.Cond.methodLink "FairyDustLaw" (80 : Nat) ({ cls := "FairyDust", name := "wands", desc := "()I" } : Jvm.MethodName)) ∈ GW := gw_t 309 (by decide +kernel) rfl
theorem kw310 : (Jvm.Cond.instanceMethod ({ cls := "FairyDust", name := "wands", desc := "()I" } : Jvm.MethodName)) ∈ GW := gw_t 310 (by decide +kernel) rfl
theorem kw311 : (Jvm.Cond.selects "FairyDust" ({ cls := "FairyDust", name := "wands", desc := "()I" } : Jvm.MethodName) ({ cls := "FairyDust", name := "wands", desc := "()I" } : Jvm.MethodName)) ∈ GW := gw_t 311 (by decide +kernel) rfl
theorem kw312 : (Jvm.Cond.code ({ cls := "FairyDust", name := "wands", desc := "()I" } : Jvm.MethodName) prog_1_method_11_code (1 : Nat) (Option.some Jvm.ClassFile.FieldType.int)) ∈ GW := gw_t 312 (by decide +kernel) rfl
theorem kw313 : (Jvm.Cond.methodLink "FairyDustLaw" (77 : Nat) ({ cls := "FairyDust", name := "children", desc := "()I" } : Jvm.MethodName)) ∈ GW := gw_t 313 (by decide +kernel) rfl
theorem kw314 : (Jvm.Cond.instanceMethod ({ cls := "FairyDust", name := "children", desc := "()I" } : Jvm.MethodName)) ∈ GW := gw_t 314 (by decide +kernel) rfl
theorem kw315 : (Jvm.Cond.selects "FairyDust" ({ cls := "FairyDust", name := "children", desc := "()I" } : Jvm.MethodName) ({ cls := "FairyDust", name := "children", desc := "()I" } : Jvm.MethodName)) ∈ GW := gw_t 315 (by decide +kernel) rfl
theorem kw316 : (Jvm.Cond.code ({ cls := "FairyDust", name := "children", desc := "()I" } : Jvm.MethodName) prog_1_method_12_code (1 : Nat) (Option.some Jvm.ClassFile.FieldType.int)) ∈ GW := gw_t 316 (by decide +kernel) rfl
theorem kw317 : (Jvm.Cond.methodLink "FairyDustLaw" (128 : Nat) ({ cls := "FairyDust", name := "granted", desc := "()I" } : Jvm.MethodName)) ∈ GW := gw_t 317 (by decide +kernel) rfl
theorem kw318 : (Jvm.Cond.instanceMethod ({ cls := "FairyDust", name := "granted", desc := "()I" } : Jvm.MethodName)) ∈ GW := gw_t 318 (by decide +kernel) rfl
theorem kw319 : (Jvm.Cond.selects "FairyDust" ({ cls := "FairyDust", name := "granted", desc := "()I" } : Jvm.MethodName) ({ cls := "FairyDust", name := "granted", desc := "()I" } : Jvm.MethodName)) ∈ GW := gw_t 319 (by decide +kernel) rfl
theorem kw320 : (Jvm.Cond.code ({ cls := "FairyDust", name := "granted", desc := "()I" } : Jvm.MethodName) prog_1_method_13_code (1 : Nat) (Option.some Jvm.ClassFile.FieldType.int)) ∈ GW := gw_t 320 (by decide +kernel) rfl
theorem kw321 : (Jvm.Cond.methodLink "FairyDustLaw" (131 : Nat) ({ cls := "FairyDust", name := "denied", desc := "()I" } : Jvm.MethodName)) ∈ GW := gw_t 321 (by decide +kernel) rfl
theorem kw322 : (Jvm.Cond.instanceMethod ({ cls := "FairyDust", name := "denied", desc := "()I" } : Jvm.MethodName)) ∈ GW := gw_t 322 (by decide +kernel) rfl
theorem kw323 : (Jvm.Cond.selects "FairyDust" ({ cls := "FairyDust", name := "denied", desc := "()I" } : Jvm.MethodName) ({ cls := "FairyDust", name := "denied", desc := "()I" } : Jvm.MethodName)) ∈ GW := gw_t 323 (by decide +kernel) rfl
theorem kw324 : (Jvm.Cond.code ({ cls := "FairyDust", name := "denied", desc := "()I" } : Jvm.MethodName) prog_1_method_14_code (1 : Nat) (Option.some Jvm.ClassFile.FieldType.int)) ∈ GW := gw_t 324 (by decide +kernel) rfl
theorem kw325 : (Jvm.Cond.methodLink "FairyDustLaw" (116 : Nat) ({ cls := "FairyDust", name := "punished", desc := "()I" } : Jvm.MethodName)) ∈ GW := gw_t 325 (by decide +kernel) rfl
theorem kw326 : (Jvm.Cond.instanceMethod ({ cls := "FairyDust", name := "punished", desc := "()I" } : Jvm.MethodName)) ∈ GW := gw_t 326 (by decide +kernel) rfl
theorem kw327 : (Jvm.Cond.selects "FairyDust" ({ cls := "FairyDust", name := "punished", desc := "()I" } : Jvm.MethodName) ({ cls := "FairyDust", name := "punished", desc := "()I" } : Jvm.MethodName)) ∈ GW := gw_t 327 (by decide +kernel) rfl
theorem kw328 : (Jvm.Cond.code ({ cls := "FairyDust", name := "punished", desc := "()I" } : Jvm.MethodName) prog_1_method_15_code (3 : Nat) (Option.some Jvm.ClassFile.FieldType.int)) ∈ GW := gw_t 328 (by decide +kernel) rfl
theorem kw329 : (Jvm.Cond.methodLinkNest "FairyDust" (108 : Nat) ({ cls := "FairyDust$Child", name := "isPunished", desc := "()Z" } : Jvm.MethodName) "FairyDust") ∈ GW := gw_t 329 (by decide +kernel) rfl
theorem kw330 : (Jvm.Cond.methodLink "FairyDustLaw" (85 : Nat) ({ cls := "FairyDust", name := "dustIn", desc := "(I)I" } : Jvm.MethodName)) ∈ GW := gw_t 330 (by decide +kernel) rfl
theorem kw331 : (Jvm.Cond.instanceMethod ({ cls := "FairyDust", name := "dustIn", desc := "(I)I" } : Jvm.MethodName)) ∈ GW := gw_t 331 (by decide +kernel) rfl
theorem kw332 : (Jvm.Cond.selects "FairyDust" ({ cls := "FairyDust", name := "dustIn", desc := "(I)I" } : Jvm.MethodName) ({ cls := "FairyDust", name := "dustIn", desc := "(I)I" } : Jvm.MethodName)) ∈ GW := gw_t 332 (by decide +kernel) rfl
theorem kw333 : (Jvm.Cond.code ({ cls := "FairyDust", name := "dustIn", desc := "(I)I" } : Jvm.MethodName) prog_1_method_16_code (2 : Nat) (Option.some Jvm.ClassFile.FieldType.int)) ∈ GW := gw_t 333 (by decide +kernel) rfl
theorem kw334 : (Jvm.Cond.methodLink "FairyDust" (55 : Nat) ({ cls := "FairyDust", name := "wandAt", desc := "(I)LFairyDust$Wand;" } : Jvm.MethodName)) ∈ GW := gw_t 334 (by decide +kernel) rfl
theorem kw336 : (Jvm.Cond.instanceMethod ({ cls := "FairyDust", name := "wandAt", desc := "(I)LFairyDust$Wand;" } : Jvm.MethodName)) ∈ GW := gw_t 336 (by decide +kernel) rfl
theorem kw337 : (Jvm.Cond.code ({ cls := "FairyDust", name := "wandAt", desc := "(I)LFairyDust$Wand;" } : Jvm.MethodName) prog_1_method_39_code (2 : Nat) (Option.some (Jvm.ClassFile.FieldType.object "FairyDust$Wand"))) ∈ GW := gw_t 337 (by decide +kernel) rfl
theorem kw339 : (Jvm.Cond.methodLink "FairyDustLaw" (82 : Nat) ({ cls := "FairyDust", name := "users", desc := "(I)I" } : Jvm.MethodName)) ∈ GW := gw_t 339 (by decide +kernel) rfl
theorem kw340 : (Jvm.Cond.instanceMethod ({ cls := "FairyDust", name := "users", desc := "(I)I" } : Jvm.MethodName)) ∈ GW := gw_t 340 (by decide +kernel) rfl
theorem kw341 : (Jvm.Cond.selects "FairyDust" ({ cls := "FairyDust", name := "users", desc := "(I)I" } : Jvm.MethodName) ({ cls := "FairyDust", name := "users", desc := "(I)I" } : Jvm.MethodName)) ∈ GW := gw_t 341 (by decide +kernel) rfl
theorem kw342 : (Jvm.Cond.code ({ cls := "FairyDust", name := "users", desc := "(I)I" } : Jvm.MethodName) prog_1_method_17_code (5 : Nat) (Option.some Jvm.ClassFile.FieldType.int)) ∈ GW := gw_t 342 (by decide +kernel) rfl
theorem kw343 : (Jvm.Cond.methodLink "FairyDustLaw" (125 : Nat) ({ cls := "FairyDust", name := "wandOf", desc := "(I)I" } : Jvm.MethodName)) ∈ GW := gw_t 343 (by decide +kernel) rfl
theorem kw344 : (Jvm.Cond.instanceMethod ({ cls := "FairyDust", name := "wandOf", desc := "(I)I" } : Jvm.MethodName)) ∈ GW := gw_t 344 (by decide +kernel) rfl
theorem kw345 : (Jvm.Cond.selects "FairyDust" ({ cls := "FairyDust", name := "wandOf", desc := "(I)I" } : Jvm.MethodName) ({ cls := "FairyDust", name := "wandOf", desc := "(I)I" } : Jvm.MethodName)) ∈ GW := gw_t 345 (by decide +kernel) rfl
theorem kw346 : (Jvm.Cond.code ({ cls := "FairyDust", name := "wandOf", desc := "(I)I" } : Jvm.MethodName) prog_1_method_18_code (2 : Nat) (Option.some Jvm.ClassFile.FieldType.int)) ∈ GW := gw_t 346 (by decide +kernel) rfl
theorem kw347 : (Jvm.Cond.methodLink "FairyDustLaw" (100 : Nat) ({ cls := "FairyDust", name := "burstOf", desc := "(I)I" } : Jvm.MethodName)) ∈ GW := gw_t 347 (by decide +kernel) rfl
theorem kw348 : (Jvm.Cond.instanceMethod ({ cls := "FairyDust", name := "burstOf", desc := "(I)I" } : Jvm.MethodName)) ∈ GW := gw_t 348 (by decide +kernel) rfl
theorem kw349 : (Jvm.Cond.selects "FairyDust" ({ cls := "FairyDust", name := "burstOf", desc := "(I)I" } : Jvm.MethodName) ({ cls := "FairyDust", name := "burstOf", desc := "(I)I" } : Jvm.MethodName)) ∈ GW := gw_t 349 (by decide +kernel) rfl
theorem kw350 : (Jvm.Cond.code ({ cls := "FairyDust", name := "burstOf", desc := "(I)I" } : Jvm.MethodName) prog_1_method_19_code (2 : Nat) (Option.some Jvm.ClassFile.FieldType.int)) ∈ GW := gw_t 350 (by decide +kernel) rfl
theorem kw351 : (Jvm.Cond.methodLink "FairyDustLaw" (91 : Nat) ({ cls := "FairyDust", name := "punishedFor", desc := "(I)I" } : Jvm.MethodName)) ∈ GW := gw_t 351 (by decide +kernel) rfl
theorem kw352 : (Jvm.Cond.instanceMethod ({ cls := "FairyDust", name := "punishedFor", desc := "(I)I" } : Jvm.MethodName)) ∈ GW := gw_t 352 (by decide +kernel) rfl
theorem kw353 : (Jvm.Cond.selects "FairyDust" ({ cls := "FairyDust", name := "punishedFor", desc := "(I)I" } : Jvm.MethodName) ({ cls := "FairyDust", name := "punishedFor", desc := "(I)I" } : Jvm.MethodName)) ∈ GW := gw_t 353 (by decide +kernel) rfl
theorem kw354 : (Jvm.Cond.code ({ cls := "FairyDust", name := "punishedFor", desc := "(I)I" } : Jvm.MethodName) prog_1_method_20_code (2 : Nat) (Option.some Jvm.ClassFile.FieldType.int)) ∈ GW := gw_t 354 (by decide +kernel) rfl
theorem kw355 : (Jvm.Cond.methodLink "FairyDustLaw" (106 : Nat) ({ cls := "FairyDust", name := "marksOf", desc := "(I)I" } : Jvm.MethodName)) ∈ GW := gw_t 355 (by decide +kernel) rfl
theorem kw356 : (Jvm.Cond.instanceMethod ({ cls := "FairyDust", name := "marksOf", desc := "(I)I" } : Jvm.MethodName)) ∈ GW := gw_t 356 (by decide +kernel) rfl
theorem kw357 : (Jvm.Cond.selects "FairyDust" ({ cls := "FairyDust", name := "marksOf", desc := "(I)I" } : Jvm.MethodName) ({ cls := "FairyDust", name := "marksOf", desc := "(I)I" } : Jvm.MethodName)) ∈ GW := gw_t 357 (by decide +kernel) rfl
theorem kw358 : (Jvm.Cond.code ({ cls := "FairyDust", name := "marksOf", desc := "(I)I" } : Jvm.MethodName) prog_1_method_21_code (2 : Nat) (Option.some Jvm.ClassFile.FieldType.int)) ∈ GW := gw_t 358 (by decide +kernel) rfl
theorem kw359 : (Jvm.Cond.methodLink "FairyDustLaw" (97 : Nat) ({ cls := "FairyDust", name := "nextPunishment", desc := "(I)I" } : Jvm.MethodName)) ∈ GW := gw_t 359 (by decide +kernel) rfl
theorem kw360 : (Jvm.Cond.instanceMethod ({ cls := "FairyDust", name := "nextPunishment", desc := "(I)I" } : Jvm.MethodName)) ∈ GW := gw_t 360 (by decide +kernel) rfl
theorem kw361 : (Jvm.Cond.selects "FairyDust" ({ cls := "FairyDust", name := "nextPunishment", desc := "(I)I" } : Jvm.MethodName) ({ cls := "FairyDust", name := "nextPunishment", desc := "(I)I" } : Jvm.MethodName)) ∈ GW := gw_t 361 (by decide +kernel) rfl
theorem kw362 : (Jvm.Cond.code ({ cls := "FairyDust", name := "nextPunishment", desc := "(I)I" } : Jvm.MethodName) prog_1_method_22_code (2 : Nat) (Option.some Jvm.ClassFile.FieldType.int)) ∈ GW := gw_t 362 (by decide +kernel) rfl
theorem kw363 : (Jvm.Cond.methodLink "FairyDustLaw" (103 : Nat) ({ cls := "FairyDust", name := "daysToBirthday", desc := "(I)I" } : Jvm.MethodName)) ∈ GW := gw_t 363 (by decide +kernel) rfl
theorem kw364 : (Jvm.Cond.instanceMethod ({ cls := "FairyDust", name := "daysToBirthday", desc := "(I)I" } : Jvm.MethodName)) ∈ GW := gw_t 364 (by decide +kernel) rfl
theorem kw365 : (Jvm.Cond.selects "FairyDust" ({ cls := "FairyDust", name := "daysToBirthday", desc := "(I)I" } : Jvm.MethodName) ({ cls := "FairyDust", name := "daysToBirthday", desc := "(I)I" } : Jvm.MethodName)) ∈ GW := gw_t 365 (by decide +kernel) rfl
theorem kw366 : (Jvm.Cond.code ({ cls := "FairyDust", name := "daysToBirthday", desc := "(I)I" } : Jvm.MethodName) prog_1_method_23_code (2 : Nat) (Option.some Jvm.ClassFile.FieldType.int)) ∈ GW := gw_t 366 (by decide +kernel) rfl
theorem kw367 : (Jvm.Cond.methodLink "FairyDust" (61 : Nat) ({ cls := "FairyDust", name := "day", desc := "()I" } : Jvm.MethodName)) ∈ GW := gw_t 367 (by decide +kernel) rfl
theorem kw368 : (Jvm.Cond.methodLink "FairyDust" (130 : Nat) ({ cls := "java/lang/Math", name := "floorMod", desc := "(II)I" } : Jvm.MethodName)) ∈ GW := gw_t 368 (by decide +kernel) rfl
theorem kw369 : (Jvm.Cond.static ({ cls := "java/lang/Math", name := "floorMod", desc := "(II)I" } : Jvm.MethodName)) ∈ GW := gw_t 369 (by decide +kernel) rfl
theorem kw370 : (Jvm.Cond.code ({ cls := "java/lang/Math", name := "floorMod", desc := "(II)I" } : Jvm.MethodName) prog_14_method_50_code (3 : Nat) (Option.some Jvm.ClassFile.FieldType.int)) ∈ GW := gw_t 370 (by decide +kernel) rfl
theorem kw371 : (Jvm.Cond.methodLink "FairyDustLaw" (94 : Nat) ({ cls := "FairyDust", name := "greatestWish", desc := "(I)I" } : Jvm.MethodName)) ∈ GW := gw_t 371 (by decide +kernel) rfl
theorem kw372 : (Jvm.Cond.instanceMethod ({ cls := "FairyDust", name := "greatestWish", desc := "(I)I" } : Jvm.MethodName)) ∈ GW := gw_t 372 (by decide +kernel) rfl
theorem kw373 : (Jvm.Cond.selects "FairyDust" ({ cls := "FairyDust", name := "greatestWish", desc := "(I)I" } : Jvm.MethodName) ({ cls := "FairyDust", name := "greatestWish", desc := "(I)I" } : Jvm.MethodName)) ∈ GW := gw_t 373 (by decide +kernel) rfl
theorem kw374 : (Jvm.Cond.code ({ cls := "FairyDust", name := "greatestWish", desc := "(I)I" } : Jvm.MethodName) prog_1_method_24_code (2 : Nat) (Option.some Jvm.ClassFile.FieldType.int)) ∈ GW := gw_t 374 (by decide +kernel) rfl
theorem kw375 : (Jvm.Cond.methodLinkNest "FairyDust" (136 : Nat) ({ cls := "FairyDust$Child", name := "grainsAtHand", desc := "()I" } : Jvm.MethodName) "FairyDust") ∈ GW := gw_t 375 (by decide +kernel) rfl
theorem kw376 : (Jvm.Cond.methodLink "FairyDust" (139 : Nat) ({ cls := "java/lang/Math", name := "min", desc := "(II)I" } : Jvm.MethodName)) ∈ GW := gw_t 376 (by decide +kernel) rfl
theorem kw377 : (Jvm.Cond.methodLink "FairyDustLaw" (109 : Nat) ({ cls := "FairyDust", name := "hoursUntil", desc := "(II)I" } : Jvm.MethodName)) ∈ GW := gw_t 377 (by decide +kernel) rfl
theorem kw378 : (Jvm.Cond.instanceMethod ({ cls := "FairyDust", name := "hoursUntil", desc := "(II)I" } : Jvm.MethodName)) ∈ GW := gw_t 378 (by decide +kernel) rfl
theorem kw379 : (Jvm.Cond.selects "FairyDust" ({ cls := "FairyDust", name := "hoursUntil", desc := "(II)I" } : Jvm.MethodName) ({ cls := "FairyDust", name := "hoursUntil", desc := "(II)I" } : Jvm.MethodName)) ∈ GW := gw_t 379 (by decide +kernel) rfl
theorem kw380 : (Jvm.Cond.code ({ cls := "FairyDust", name := "hoursUntil", desc := "(II)I" } : Jvm.MethodName) prog_1_method_25_code (5 : Nat) (Option.some Jvm.ClassFile.FieldType.int)) ∈ GW := gw_t 380 (by decide +kernel) rfl
theorem kw381 : (Jvm.Cond.methodLink "FairyDust" (142 : Nat) ({ cls := "FairyDust", name := "beginTrial", desc := "(LFairyDust$Child;)V" } : Jvm.MethodName)) ∈ GW := gw_t 381 (by decide +kernel) rfl
theorem kw383 : (Jvm.Cond.instanceMethod ({ cls := "FairyDust", name := "beginTrial", desc := "(LFairyDust$Child;)V" } : Jvm.MethodName)) ∈ GW := gw_t 383 (by decide +kernel) rfl
theorem kw384 : (Jvm.Cond.code ({ cls := "FairyDust", name := "beginTrial", desc := "(LFairyDust$Child;)V" } : Jvm.MethodName) prog_1_method_36_code (2 : Nat) (Option.none : Option Jvm.ClassFile.FieldType)) ∈ GW := gw_t 384 (by decide +kernel) rfl
theorem kw385 : (Jvm.Cond.methodLinkNest "FairyDust" (238 : Nat) ({ cls := "FairyDust$Wand", name := "copyFrom", desc := "(LFairyDust$Wand;)V" } : Jvm.MethodName) "FairyDust") ∈ GW := gw_t 385 (by decide +kernel) rfl
theorem kw387 : (Jvm.Cond.instanceMethod ({ cls := "FairyDust$Wand", name := "copyFrom", desc := "(LFairyDust$Wand;)V" } : Jvm.MethodName)) ∈ GW := gw_t 387 (by decide +kernel) rfl
theorem kw388 : (Jvm.Cond.code ({ cls := "FairyDust$Wand", name := "copyFrom", desc := "(LFairyDust$Wand;)V" } : Jvm.MethodName) prog_3_method_2_code (2 : Nat) (Option.none : Option Jvm.ClassFile.FieldType)) ∈ GW := gw_t 388 (by decide +kernel) rfl
theorem kw389 : (Jvm.Cond.methodLinkNest "FairyDust" (242 : Nat) ({ cls := "FairyDust$Child", name := "copyFrom", desc := "(LFairyDust$Child;)V" } : Jvm.MethodName) "FairyDust") ∈ GW := gw_t 389 (by decide +kernel) rfl
theorem kw391 : (Jvm.Cond.instanceMethod ({ cls := "FairyDust$Child", name := "copyFrom", desc := "(LFairyDust$Child;)V" } : Jvm.MethodName)) ∈ GW := gw_t 391 (by decide +kernel) rfl
theorem kw392 : (Jvm.Cond.code ({ cls := "FairyDust$Child", name := "copyFrom", desc := "(LFairyDust$Child;)V" } : Jvm.MethodName) prog_2_method_2_code (2 : Nat) (Option.none : Option Jvm.ClassFile.FieldType)) ∈ GW := gw_t 392 (by decide +kernel) rfl
theorem kw393 : (Jvm.Cond.methodLinkNest "FairyDust" (146 : Nat) ({ cls := "FairyDust$Child", name := "canHave", desc := "(I)Z" } : Jvm.MethodName) "FairyDust") ∈ GW := gw_t 393 (by decide +kernel) rfl
theorem kw394 : (Jvm.Cond.methodLink "FairyDust" (149 : Nat) ({ cls := "FairyDust", name := "passTrialHour", desc := "(I)V" } : Jvm.MethodName)) ∈ GW := gw_t 394 (by decide +kernel) rfl
theorem kw396 : (Jvm.Cond.instanceMethod ({ cls := "FairyDust", name := "passTrialHour", desc := "(I)V" } : Jvm.MethodName)) ∈ GW := gw_t 396 (by decide +kernel) rfl
theorem kw397 : (Jvm.Cond.code ({ cls := "FairyDust", name := "passTrialHour", desc := "(I)V" } : Jvm.MethodName) prog_1_method_37_code (2 : Nat) (Option.none : Option Jvm.ClassFile.FieldType)) ∈ GW := gw_t 397 (by decide +kernel) rfl
theorem kw398 : (Jvm.Cond.methodLink "FairyDustLaw" (112 : Nat) ({ cls := "FairyDust", name := "grantedIn", desc := "(III)I" } : Jvm.MethodName)) ∈ GW := gw_t 398 (by decide +kernel) rfl
theorem kw399 : (Jvm.Cond.instanceMethod ({ cls := "FairyDust", name := "grantedIn", desc := "(III)I" } : Jvm.MethodName)) ∈ GW := gw_t 399 (by decide +kernel) rfl
theorem kw400 : (Jvm.Cond.selects "FairyDust" ({ cls := "FairyDust", name := "grantedIn", desc := "(III)I" } : Jvm.MethodName) ({ cls := "FairyDust", name := "grantedIn", desc := "(III)I" } : Jvm.MethodName)) ∈ GW := gw_t 400 (by decide +kernel) rfl
theorem kw401 : (Jvm.Cond.code ({ cls := "FairyDust", name := "grantedIn", desc := "(III)I" } : Jvm.MethodName) prog_1_method_26_code (5 : Nat) (Option.some Jvm.ClassFile.FieldType.int)) ∈ GW := gw_t 401 (by decide +kernel) rfl
theorem kw402 : (Jvm.Cond.methodLink "FairyDust" (152 : Nat) ({ cls := "FairyDust", name := "tryWishes", desc := "(II)I" } : Jvm.MethodName)) ∈ GW := gw_t 402 (by decide +kernel) rfl
theorem kw404 : (Jvm.Cond.instanceMethod ({ cls := "FairyDust", name := "tryWishes", desc := "(II)I" } : Jvm.MethodName)) ∈ GW := gw_t 404 (by decide +kernel) rfl
theorem kw405 : (Jvm.Cond.code ({ cls := "FairyDust", name := "tryWishes", desc := "(II)I" } : Jvm.MethodName) prog_1_method_38_code (5 : Nat) (Option.some Jvm.ClassFile.FieldType.int)) ∈ GW := gw_t 405 (by decide +kernel) rfl
theorem kw406 : (Jvm.Cond.methodLink "FairyDustLaw" (88 : Nat) ({ cls := "FairyDust", name := "hoursUntilFull", desc := "(I)I" } : Jvm.MethodName)) ∈ GW := gw_t 406 (by decide +kernel) rfl
theorem kw407 : (Jvm.Cond.instanceMethod ({ cls := "FairyDust", name := "hoursUntilFull", desc := "(I)I" } : Jvm.MethodName)) ∈ GW := gw_t 407 (by decide +kernel) rfl
theorem kw408 : (Jvm.Cond.selects "FairyDust" ({ cls := "FairyDust", name := "hoursUntilFull", desc := "(I)I" } : Jvm.MethodName) ({ cls := "FairyDust", name := "hoursUntilFull", desc := "(I)I" } : Jvm.MethodName)) ∈ GW := gw_t 408 (by decide +kernel) rfl
theorem kw409 : (Jvm.Cond.code ({ cls := "FairyDust", name := "hoursUntilFull", desc := "(I)I" } : Jvm.MethodName) prog_1_method_28_code (4 : Nat) (Option.some Jvm.ClassFile.FieldType.int)) ∈ GW := gw_t 409 (by decide +kernel) rfl
theorem kw410 : (Jvm.Cond.methodLinkNest "FairyDust" (155 : Nat) ({ cls := "FairyDust$Wand", name := "isFullAfter", desc := "(I)Z" } : Jvm.MethodName) "FairyDust") ∈ GW := gw_t 410 (by decide +kernel) rfl
theorem kw412 : (Jvm.Cond.instanceMethod ({ cls := "FairyDust$Wand", name := "isFullAfter", desc := "(I)Z" } : Jvm.MethodName)) ∈ GW := gw_t 412 (by decide +kernel) rfl
theorem kw413 : (Jvm.Cond.code ({ cls := "FairyDust$Wand", name := "isFullAfter", desc := "(I)Z" } : Jvm.MethodName) prog_3_method_4_code (2 : Nat) (Option.some Jvm.ClassFile.FieldType.boolean)) ∈ GW := gw_t 413 (by decide +kernel) rfl
theorem kw414 : (Jvm.Cond.methodLink "FairyDustLaw" (134 : Nat) ({ cls := "FairyDust", name := "bestChild", desc := "(I)I" } : Jvm.MethodName)) ∈ GW := gw_t 414 (by decide +kernel) rfl
theorem kw415 : (Jvm.Cond.instanceMethod ({ cls := "FairyDust", name := "bestChild", desc := "(I)I" } : Jvm.MethodName)) ∈ GW := gw_t 415 (by decide +kernel) rfl
theorem kw416 : (Jvm.Cond.selects "FairyDust" ({ cls := "FairyDust", name := "bestChild", desc := "(I)I" } : Jvm.MethodName) ({ cls := "FairyDust", name := "bestChild", desc := "(I)I" } : Jvm.MethodName)) ∈ GW := gw_t 416 (by decide +kernel) rfl
theorem kw417 : (Jvm.Cond.code ({ cls := "FairyDust", name := "bestChild", desc := "(I)I" } : Jvm.MethodName) prog_1_method_29_code (6 : Nat) (Option.some Jvm.ClassFile.FieldType.int)) ∈ GW := gw_t 417 (by decide +kernel) rfl
theorem kw418 : (Jvm.Cond.methodLinkNest "FairyDust" (158 : Nat) ({ cls := "FairyDust$Child", name := "dustLeftAfter", desc := "(I)I" } : Jvm.MethodName) "FairyDust") ∈ GW := gw_t 418 (by decide +kernel) rfl
theorem kw419 : (Jvm.Cond.methodLink "FairyDustLaw" (73 : Nat) ({ cls := "FairyDust", name := "digest", desc := "()J" } : Jvm.MethodName)) ∈ GW := gw_t 419 (by decide +kernel) rfl
theorem kw420 : (Jvm.Cond.instanceMethod ({ cls := "FairyDust", name := "digest", desc := "()J" } : Jvm.MethodName)) ∈ GW := gw_t 420 (by decide +kernel) rfl
theorem kw421 : (Jvm.Cond.selects "FairyDust" ({ cls := "FairyDust", name := "digest", desc := "()J" } : Jvm.MethodName) ({ cls := "FairyDust", name := "digest", desc := "()J" } : Jvm.MethodName)) ∈ GW := gw_t 421 (by decide +kernel) rfl
theorem kw422 : (Jvm.Cond.code ({ cls := "FairyDust", name := "digest", desc := "()J" } : Jvm.MethodName) prog_1_method_31_code (4 : Nat) (Option.some Jvm.ClassFile.FieldType.long)) ∈ GW := gw_t 422 (by decide +kernel) rfl
theorem kw423 : (Jvm.Cond.constantLong "FairyDust" (162 : Nat) (2267 : Int64)) ∈ GW := gw_t 423 (by decide +kernel) rfl
theorem kw424 : (Jvm.Cond.methodLink "FairyDust" (164 : Nat) ({ cls := "FairyDust", name := "hour", desc := "()I" } : Jvm.MethodName)) ∈ GW := gw_t 424 (by decide +kernel) rfl
theorem kw425 : (Jvm.Cond.methodLink "FairyDust" (166 : Nat) ({ cls := "FairyDust", name := "mixed", desc := "(JI)J" } : Jvm.MethodName)) ∈ GW := gw_t 425 (by decide +kernel) rfl
theorem kw426 : (Jvm.Cond.static ({ cls := "FairyDust", name := "mixed", desc := "(JI)J" } : Jvm.MethodName)) ∈ GW := gw_t 426 (by decide +kernel) rfl
theorem kw427 : (Jvm.Cond.code ({ cls := "FairyDust", name := "mixed", desc := "(JI)J" } : Jvm.MethodName) prog_1_method_34_code (3 : Nat) (Option.some Jvm.ClassFile.FieldType.long)) ∈ GW := gw_t 427 (by decide +kernel) rfl
theorem kw428 : (Jvm.Cond.constantLong "FairyDust" (230 : Nat) (31 : Int64)) ∈ GW := gw_t 428 (by decide +kernel) rfl
theorem kw429 : (Jvm.Cond.methodLink "FairyDust" (170 : Nat) ({ cls := "FairyDust", name := "wands", desc := "()I" } : Jvm.MethodName)) ∈ GW := gw_t 429 (by decide +kernel) rfl
theorem kw430 : (Jvm.Cond.methodLink "FairyDust" (172 : Nat) ({ cls := "FairyDust", name := "children", desc := "()I" } : Jvm.MethodName)) ∈ GW := gw_t 430 (by decide +kernel) rfl
theorem kw431 : (Jvm.Cond.methodLink "FairyDust" (174 : Nat) ({ cls := "FairyDust", name := "granted", desc := "()I" } : Jvm.MethodName)) ∈ GW := gw_t 431 (by decide +kernel) rfl
theorem kw432 : (Jvm.Cond.methodLink "FairyDust" (176 : Nat) ({ cls := "FairyDust", name := "denied", desc := "()I" } : Jvm.MethodName)) ∈ GW := gw_t 432 (by decide +kernel) rfl
theorem kw433 : (Jvm.Cond.methodLink "FairyDust" (178 : Nat) ({ cls := "FairyDust", name := "punished", desc := "()I" } : Jvm.MethodName)) ∈ GW := gw_t 433 (by decide +kernel) rfl
theorem kw434 : (Jvm.Cond.methodLink "FairyDust" (181 : Nat) ({ cls := "FairyDust", name := "bestChild", desc := "(I)I" } : Jvm.MethodName)) ∈ GW := gw_t 434 (by decide +kernel) rfl
theorem kw435 : (Jvm.Cond.methodLink "FairyDust" (184 : Nat) ({ cls := "FairyDust", name := "withWand", desc := "(JI)J" } : Jvm.MethodName)) ∈ GW := gw_t 435 (by decide +kernel) rfl
theorem kw437 : (Jvm.Cond.instanceMethod ({ cls := "FairyDust", name := "withWand", desc := "(JI)J" } : Jvm.MethodName)) ∈ GW := gw_t 437 (by decide +kernel) rfl
theorem kw438 : (Jvm.Cond.code ({ cls := "FairyDust", name := "withWand", desc := "(JI)J" } : Jvm.MethodName) prog_1_method_32_code (6 : Nat) (Option.some Jvm.ClassFile.FieldType.long)) ∈ GW := gw_t 438 (by decide +kernel) rfl
theorem kw439 : (Jvm.Cond.methodLink "FairyDust" (190 : Nat) ({ cls := "FairyDust", name := "dustIn", desc := "(I)I" } : Jvm.MethodName)) ∈ GW := gw_t 439 (by decide +kernel) rfl
theorem kw440 : (Jvm.Cond.methodLink "FairyDust" (193 : Nat) ({ cls := "FairyDust", name := "users", desc := "(I)I" } : Jvm.MethodName)) ∈ GW := gw_t 440 (by decide +kernel) rfl
theorem kw441 : (Jvm.Cond.methodLink "FairyDust" (196 : Nat) ({ cls := "FairyDust", name := "hoursUntilFull", desc := "(I)I" } : Jvm.MethodName)) ∈ GW := gw_t 441 (by decide +kernel) rfl
theorem kw442 : (Jvm.Cond.methodLink "FairyDust" (187 : Nat) ({ cls := "FairyDust", name := "withChild", desc := "(JI)J" } : Jvm.MethodName)) ∈ GW := gw_t 442 (by decide +kernel) rfl
theorem kw444 : (Jvm.Cond.instanceMethod ({ cls := "FairyDust", name := "withChild", desc := "(JI)J" } : Jvm.MethodName)) ∈ GW := gw_t 444 (by decide +kernel) rfl
theorem kw445 : (Jvm.Cond.code ({ cls := "FairyDust", name := "withChild", desc := "(JI)J" } : Jvm.MethodName) prog_1_method_33_code (6 : Nat) (Option.some Jvm.ClassFile.FieldType.long)) ∈ GW := gw_t 445 (by decide +kernel) rfl
theorem kw446 : (Jvm.Cond.methodLink "FairyDust" (199 : Nat) ({ cls := "FairyDust", name := "wandOf", desc := "(I)I" } : Jvm.MethodName)) ∈ GW := gw_t 446 (by decide +kernel) rfl
theorem kw447 : (Jvm.Cond.methodLink "FairyDust" (202 : Nat) ({ cls := "FairyDust", name := "burstOf", desc := "(I)I" } : Jvm.MethodName)) ∈ GW := gw_t 447 (by decide +kernel) rfl
theorem kw448 : (Jvm.Cond.methodLink "FairyDust" (205 : Nat) ({ cls := "FairyDust", name := "punishedFor", desc := "(I)I" } : Jvm.MethodName)) ∈ GW := gw_t 448 (by decide +kernel) rfl
theorem kw449 : (Jvm.Cond.methodLink "FairyDust" (208 : Nat) ({ cls := "FairyDust", name := "marksOf", desc := "(I)I" } : Jvm.MethodName)) ∈ GW := gw_t 449 (by decide +kernel) rfl
theorem kw450 : (Jvm.Cond.methodLink "FairyDust" (211 : Nat) ({ cls := "FairyDust", name := "nextPunishment", desc := "(I)I" } : Jvm.MethodName)) ∈ GW := gw_t 450 (by decide +kernel) rfl
theorem kw451 : (Jvm.Cond.methodLink "FairyDust" (214 : Nat) ({ cls := "FairyDust", name := "daysToBirthday", desc := "(I)I" } : Jvm.MethodName)) ∈ GW := gw_t 451 (by decide +kernel) rfl
theorem kw452 : (Jvm.Cond.methodLink "FairyDust" (217 : Nat) ({ cls := "FairyDust", name := "greatestWish", desc := "(I)I" } : Jvm.MethodName)) ∈ GW := gw_t 452 (by decide +kernel) rfl
theorem kw453 : (Jvm.Cond.methodLink "FairyDust" (220 : Nat) ({ cls := "FairyDust", name := "hoursUntil", desc := "(II)I" } : Jvm.MethodName)) ∈ GW := gw_t 453 (by decide +kernel) rfl
theorem kw454 : (Jvm.Cond.methodLink "FairyDust" (223 : Nat) ({ cls := "FairyDust", name := "grantedIn", desc := "(III)I" } : Jvm.MethodName)) ∈ GW := gw_t 454 (by decide +kernel) rfl
theorem kw455 : (Jvm.Cond.methodLink "FairyDust" (227 : Nat) ({ cls := "FairyDust", name := "fallWanted", desc := "(II)I" } : Jvm.MethodName)) ∈ GW := gw_t 455 (by decide +kernel) rfl
theorem kw456 : (Jvm.Cond.instanceMethod ({ cls := "FairyDust", name := "fallWanted", desc := "(II)I" } : Jvm.MethodName)) ∈ GW := gw_t 456 (by decide +kernel) rfl
theorem kw457 : (Jvm.Cond.selects "FairyDust" ({ cls := "FairyDust", name := "fallWanted", desc := "(II)I" } : Jvm.MethodName) ({ cls := "FairyDust", name := "fallWanted", desc := "(II)I" } : Jvm.MethodName)) ∈ GW := gw_t 457 (by decide +kernel) rfl
theorem kw458 : (Jvm.Cond.code ({ cls := "FairyDust", name := "fallWanted", desc := "(II)I" } : Jvm.MethodName) prog_1_method_27_code (5 : Nat) (Option.some Jvm.ClassFile.FieldType.int)) ∈ GW := gw_t 458 (by decide +kernel) rfl
theorem kw459 : (Jvm.Cond.methodLink "FairyDustLaw" (53 : Nat) ({ cls := "FairyDustLaw$Sim", name := "pass", desc := "(I)I" } : Jvm.MethodName)) ∈ GW := gw_t 459 (by decide +kernel) rfl
theorem kw460 : (Jvm.Cond.instanceMethod ({ cls := "FairyDustLaw$Sim", name := "pass", desc := "(I)I" } : Jvm.MethodName)) ∈ GW := gw_t 460 (by decide +kernel) rfl
theorem kw461 : (Jvm.Cond.selects "FairyDustLaw$Sim" ({ cls := "FairyDustLaw$Sim", name := "pass", desc := "(I)I" } : Jvm.MethodName) ({ cls := "FairyDustLaw$Sim", name := "pass", desc := "(I)I" } : Jvm.MethodName)) ∈ GW := gw_t 461 (by decide +kernel) rfl
theorem kw462 : (Jvm.Cond.code ({ cls := "FairyDustLaw$Sim", name := "pass", desc := "(I)I" } : Jvm.MethodName) prog_5_method_6_code (4 : Nat) (Option.some Jvm.ClassFile.FieldType.int)) ∈ GW := gw_t 462 (by decide +kernel) rfl
theorem kw463 : (Jvm.Cond.methodLink "FairyDustLaw$Sim" (37 : Nat) ({ cls := "FairyDustLaw$Sim", name := "pass", desc := "()I" } : Jvm.MethodName)) ∈ GW := gw_t 463 (by decide +kernel) rfl
theorem kw464 : (Jvm.Cond.instanceMethod ({ cls := "FairyDustLaw$Sim", name := "pass", desc := "()I" } : Jvm.MethodName)) ∈ GW := gw_t 464 (by decide +kernel) rfl
theorem kw465 : (Jvm.Cond.selects "FairyDustLaw$Sim" ({ cls := "FairyDustLaw$Sim", name := "pass", desc := "()I" } : Jvm.MethodName) ({ cls := "FairyDustLaw$Sim", name := "pass", desc := "()I" } : Jvm.MethodName)) ∈ GW := gw_t 465 (by decide +kernel) rfl
theorem kw466 : (Jvm.Cond.code ({ cls := "FairyDustLaw$Sim", name := "pass", desc := "()I" } : Jvm.MethodName) prog_5_method_5_code (7 : Nat) (Option.some Jvm.ClassFile.FieldType.int)) ∈ GW := gw_t 466 (by decide +kernel) rfl
theorem kw467 : (Jvm.Cond.methodLink "FairyDustLaw$Sim" (33 : Nat) ({ cls := "FairyDustLaw$Sim", name := "isBirthday", desc := "(I)Z" } : Jvm.MethodName)) ∈ GW := gw_t 467 (by decide +kernel) rfl
theorem kw468 : (Jvm.Cond.instanceMethod ({ cls := "FairyDustLaw$Sim", name := "isBirthday", desc := "(I)Z" } : Jvm.MethodName)) ∈ GW := gw_t 468 (by decide +kernel) rfl
theorem kw469 : (Jvm.Cond.selects "FairyDustLaw$Sim" ({ cls := "FairyDustLaw$Sim", name := "isBirthday", desc := "(I)Z" } : Jvm.MethodName) ({ cls := "FairyDustLaw$Sim", name := "isBirthday", desc := "(I)Z" } : Jvm.MethodName)) ∈ GW := gw_t 469 (by decide +kernel) rfl
theorem kw470 : (Jvm.Cond.code ({ cls := "FairyDustLaw$Sim", name := "isBirthday", desc := "(I)Z" } : Jvm.MethodName) prog_5_method_4_code (2 : Nat) (Option.some Jvm.ClassFile.FieldType.boolean)) ∈ GW := gw_t 470 (by decide +kernel) rfl
theorem kw471 : (Jvm.Cond.methodLink "FairyDustLaw" (58 : Nat) ({ cls := "FairyDustLaw$Sim", name := "wish", desc := "(II)Z" } : Jvm.MethodName)) ∈ GW := gw_t 471 (by decide +kernel) rfl
theorem kw472 : (Jvm.Cond.instanceMethod ({ cls := "FairyDustLaw$Sim", name := "wish", desc := "(II)Z" } : Jvm.MethodName)) ∈ GW := gw_t 472 (by decide +kernel) rfl
theorem kw473 : (Jvm.Cond.selects "FairyDustLaw$Sim" ({ cls := "FairyDustLaw$Sim", name := "wish", desc := "(II)Z" } : Jvm.MethodName) ({ cls := "FairyDustLaw$Sim", name := "wish", desc := "(II)Z" } : Jvm.MethodName)) ∈ GW := gw_t 473 (by decide +kernel) rfl
theorem kw474 : (Jvm.Cond.code ({ cls := "FairyDustLaw$Sim", name := "wish", desc := "(II)Z" } : Jvm.MethodName) prog_5_method_9_code (5 : Nat) (Option.some Jvm.ClassFile.FieldType.boolean)) ∈ GW := gw_t 474 (by decide +kernel) rfl
theorem kw475 : (Jvm.Cond.methodLink "FairyDustLaw$Sim" (41 : Nat) ({ cls := "FairyDustLaw$Sim", name := "can", desc := "(II)Z" } : Jvm.MethodName)) ∈ GW := gw_t 475 (by decide +kernel) rfl
theorem kw476 : (Jvm.Cond.instanceMethod ({ cls := "FairyDustLaw$Sim", name := "can", desc := "(II)Z" } : Jvm.MethodName)) ∈ GW := gw_t 476 (by decide +kernel) rfl
theorem kw477 : (Jvm.Cond.selects "FairyDustLaw$Sim" ({ cls := "FairyDustLaw$Sim", name := "can", desc := "(II)Z" } : Jvm.MethodName) ({ cls := "FairyDustLaw$Sim", name := "can", desc := "(II)Z" } : Jvm.MethodName)) ∈ GW := gw_t 477 (by decide +kernel) rfl
theorem kw478 : (Jvm.Cond.code ({ cls := "FairyDustLaw$Sim", name := "can", desc := "(II)Z" } : Jvm.MethodName) prog_5_method_7_code (3 : Nat) (Option.some Jvm.ClassFile.FieldType.boolean)) ∈ GW := gw_t 478 (by decide +kernel) rfl
theorem kw479 : (Jvm.Cond.methodLink "FairyDustLaw$Sim" (45 : Nat) ({ cls := "FairyDustLaw$Sim", name := "next", desc := "(I)I" } : Jvm.MethodName)) ∈ GW := gw_t 479 (by decide +kernel) rfl
theorem kw480 : (Jvm.Cond.instanceMethod ({ cls := "FairyDustLaw$Sim", name := "next", desc := "(I)I" } : Jvm.MethodName)) ∈ GW := gw_t 480 (by decide +kernel) rfl
theorem kw481 : (Jvm.Cond.selects "FairyDustLaw$Sim" ({ cls := "FairyDustLaw$Sim", name := "next", desc := "(I)I" } : Jvm.MethodName) ({ cls := "FairyDustLaw$Sim", name := "next", desc := "(I)I" } : Jvm.MethodName)) ∈ GW := gw_t 481 (by decide +kernel) rfl
theorem kw482 : (Jvm.Cond.code ({ cls := "FairyDustLaw$Sim", name := "next", desc := "(I)I" } : Jvm.MethodName) prog_5_method_8_code (4 : Nat) (Option.some Jvm.ClassFile.FieldType.int)) ∈ GW := gw_t 482 (by decide +kernel) rfl
theorem kw483 : (Jvm.Cond.methodLink "FairyDustLaw" (142 : Nat) ({ cls := "FairyDustLaw$Sim", name := "isSame", desc := "(LFairyDust;)Z" } : Jvm.MethodName)) ∈ GW := gw_t 483 (by decide +kernel) rfl
theorem kw484 : (Jvm.Cond.instanceMethod ({ cls := "FairyDustLaw$Sim", name := "isSame", desc := "(LFairyDust;)Z" } : Jvm.MethodName)) ∈ GW := gw_t 484 (by decide +kernel) rfl
theorem kw485 : (Jvm.Cond.selects "FairyDustLaw$Sim" ({ cls := "FairyDustLaw$Sim", name := "isSame", desc := "(LFairyDust;)Z" } : Jvm.MethodName) ({ cls := "FairyDustLaw$Sim", name := "isSame", desc := "(LFairyDust;)Z" } : Jvm.MethodName)) ∈ GW := gw_t 485 (by decide +kernel) rfl
theorem kw486 : (Jvm.Cond.code ({ cls := "FairyDustLaw$Sim", name := "isSame", desc := "(LFairyDust;)Z" } : Jvm.MethodName) prog_5_method_13_code (9 : Nat) (Option.some Jvm.ClassFile.FieldType.boolean)) ∈ GW := gw_t 486 (by decide +kernel) rfl
theorem kw487 : (Jvm.Cond.methodLink "FairyDustLaw$Sim" (56 : Nat) ({ cls := "FairyDust", name := "dustIn", desc := "(I)I" } : Jvm.MethodName)) ∈ GW := gw_t 487 (by decide +kernel) rfl
theorem kw488 : (Jvm.Cond.methodLink "FairyDustLaw$Sim" (61 : Nat) ({ cls := "FairyDust", name := "users", desc := "(I)I" } : Jvm.MethodName)) ∈ GW := gw_t 488 (by decide +kernel) rfl
theorem kw489 : (Jvm.Cond.methodLink "FairyDustLaw$Sim" (64 : Nat) ({ cls := "FairyDust", name := "wandOf", desc := "(I)I" } : Jvm.MethodName)) ∈ GW := gw_t 489 (by decide +kernel) rfl
theorem kw490 : (Jvm.Cond.methodLink "FairyDustLaw$Sim" (67 : Nat) ({ cls := "FairyDust", name := "burstOf", desc := "(I)I" } : Jvm.MethodName)) ∈ GW := gw_t 490 (by decide +kernel) rfl
theorem kw491 : (Jvm.Cond.methodLink "FairyDustLaw$Sim" (70 : Nat) ({ cls := "FairyDust", name := "punishedFor", desc := "(I)I" } : Jvm.MethodName)) ∈ GW := gw_t 491 (by decide +kernel) rfl
theorem kw492 : (Jvm.Cond.methodLink "FairyDustLaw$Sim" (73 : Nat) ({ cls := "FairyDust", name := "marksOf", desc := "(I)I" } : Jvm.MethodName)) ∈ GW := gw_t 492 (by decide +kernel) rfl
theorem kw493 : (Jvm.Cond.methodLink "FairyDustLaw$Sim" (76 : Nat) ({ cls := "FairyDust", name := "nextPunishment", desc := "(I)I" } : Jvm.MethodName)) ∈ GW := gw_t 493 (by decide +kernel) rfl
theorem kw494 : (Jvm.Cond.methodLink "FairyDustLaw$Sim" (79 : Nat) ({ cls := "FairyDust", name := "daysToBirthday", desc := "(I)I" } : Jvm.MethodName)) ∈ GW := gw_t 494 (by decide +kernel) rfl
theorem kw495 : (Jvm.Cond.methodLink "FairyDustLaw$Sim" (82 : Nat) ({ cls := "FairyDust", name := "greatestWish", desc := "(I)I" } : Jvm.MethodName)) ∈ GW := gw_t 495 (by decide +kernel) rfl
theorem kw496 : (Jvm.Cond.methodLink "FairyDustLaw$Sim" (85 : Nat) ({ cls := "FairyDust", name := "hour", desc := "()I" } : Jvm.MethodName)) ∈ GW := gw_t 496 (by decide +kernel) rfl
theorem kw497 : (Jvm.Cond.methodLink "FairyDustLaw$Sim" (87 : Nat) ({ cls := "FairyDust", name := "day", desc := "()I" } : Jvm.MethodName)) ∈ GW := gw_t 497 (by decide +kernel) rfl
theorem kw498 : (Jvm.Cond.methodLink "FairyDustLaw$Sim" (90 : Nat) ({ cls := "FairyDust", name := "wands", desc := "()I" } : Jvm.MethodName)) ∈ GW := gw_t 498 (by decide +kernel) rfl
theorem kw499 : (Jvm.Cond.methodLink "FairyDustLaw$Sim" (92 : Nat) ({ cls := "FairyDust", name := "children", desc := "()I" } : Jvm.MethodName)) ∈ GW := gw_t 499 (by decide +kernel) rfl
theorem kw500 : (Jvm.Cond.methodLink "FairyDustLaw$Sim" (94 : Nat) ({ cls := "FairyDust", name := "granted", desc := "()I" } : Jvm.MethodName)) ∈ GW := gw_t 500 (by decide +kernel) rfl
theorem kw501 : (Jvm.Cond.methodLink "FairyDustLaw$Sim" (96 : Nat) ({ cls := "FairyDust", name := "denied", desc := "()I" } : Jvm.MethodName)) ∈ GW := gw_t 501 (by decide +kernel) rfl
theorem kw502 : (Jvm.Cond.methodLink "FairyDustLaw$Sim" (98 : Nat) ({ cls := "FairyDust", name := "punished", desc := "()I" } : Jvm.MethodName)) ∈ GW := gw_t 502 (by decide +kernel) rfl
theorem kw503 : (Jvm.Cond.methodLink "FairyDustLaw$Sim" (101 : Nat) ({ cls := "FairyDust", name := "share", desc := "()D" } : Jvm.MethodName)) ∈ GW := gw_t 503 (by decide +kernel) rfl
theorem kw504 : (Jvm.Cond.instanceMethod ({ cls := "FairyDust", name := "share", desc := "()D" } : Jvm.MethodName)) ∈ GW := gw_t 504 (by decide +kernel) rfl
theorem kw505 : (Jvm.Cond.selects "FairyDust" ({ cls := "FairyDust", name := "share", desc := "()D" } : Jvm.MethodName) ({ cls := "FairyDust", name := "share", desc := "()D" } : Jvm.MethodName)) ∈ GW := gw_t 505 (by decide +kernel) rfl
theorem kw506 : (Jvm.Cond.code ({ cls := "FairyDust", name := "share", desc := "()D" } : Jvm.MethodName) prog_1_method_30_code (2 : Nat) (Option.some Jvm.ClassFile.FieldType.double)) ∈ GW := gw_t 506 (by decide +kernel) rfl
theorem kw507 : (Jvm.Cond.methodLink "FairyDustLaw" (18 : Nat) ({ cls := "FairyDustLaw", name := "below", desc := "(II)I" } : Jvm.MethodName)) ∈ GW := gw_t 507 (by decide +kernel) rfl
theorem kw508 : (Jvm.Cond.static ({ cls := "FairyDustLaw", name := "below", desc := "(II)I" } : Jvm.MethodName)) ∈ GW := gw_t 508 (by decide +kernel) rfl
theorem kw509 : (Jvm.Cond.code ({ cls := "FairyDustLaw", name := "below", desc := "(II)I" } : Jvm.MethodName) method_2_code (2 : Nat) (Option.some Jvm.ClassFile.FieldType.int)) ∈ GW := gw_t 509 (by decide +kernel) rfl
theorem kw510 : (Jvm.Cond.constant "FairyDustLaw" (7 : Nat) (2147483647 : Int32)) ∈ GW := gw_t 510 (by decide +kernel) rfl
theorem kw511 : (Jvm.Cond.methodLink "FairyDustLaw" (60 : Nat) ({ cls := "FairyDustLaw", name := "cell", desc := "([II)I" } : Jvm.MethodName)) ∈ GW := gw_t 511 (by decide +kernel) rfl
theorem kw512 : (Jvm.Cond.static ({ cls := "FairyDustLaw", name := "cell", desc := "([II)I" } : Jvm.MethodName)) ∈ GW := gw_t 512 (by decide +kernel) rfl
theorem kw513 : (Jvm.Cond.code ({ cls := "FairyDustLaw", name := "cell", desc := "([II)I" } : Jvm.MethodName) method_3_code (2 : Nat) (Option.some Jvm.ClassFile.FieldType.int)) ∈ GW := gw_t 513 (by decide +kernel) rfl
theorem kw514 : (Jvm.Cond.constant "FairyDustLaw" (8 : Nat) (790386105 : Int32)) ∈ GW := gw_t 514 (by decide +kernel) rfl
theorem kw515 : (Jvm.Cond.methodLink "FairyDustLaw" (64 : Nat) ({ cls := "FairyDustLaw", name := "act", desc := "(LFairyDust;LFairyDustLaw$Sim;I)Z" } : Jvm.MethodName)) ∈ GW := gw_t 515 (by decide +kernel) rfl
theorem kw516 : (Jvm.Cond.static ({ cls := "FairyDustLaw", name := "act", desc := "(LFairyDust;LFairyDustLaw$Sim;I)Z" } : Jvm.MethodName)) ∈ GW := gw_t 516 (by decide +kernel) rfl
theorem kw517 : (Jvm.Cond.code ({ cls := "FairyDustLaw", name := "act", desc := "(LFairyDust;LFairyDustLaw$Sim;I)Z" } : Jvm.MethodName) method_4_code (8 : Nat) (Option.some Jvm.ClassFile.FieldType.boolean)) ∈ GW := gw_t 517 (by decide +kernel) rfl
theorem kw518 : (Jvm.Cond.methodLink "FairyDustLaw" (24 : Nat) ({ cls := "FairyDustLaw$Sim", name := "with", desc := "([[I[I)[[I" } : Jvm.MethodName)) ∈ GW := gw_t 518 (by decide +kernel) rfl
theorem kw519 : (Jvm.Cond.static ({ cls := "FairyDustLaw$Sim", name := "with", desc := "([[I[I)[[I" } : Jvm.MethodName)) ∈ GW := gw_t 519 (by decide +kernel) rfl
theorem kw520 : (Jvm.Cond.code ({ cls := "FairyDustLaw$Sim", name := "with", desc := "([[I[I)[[I" } : Jvm.MethodName) prog_5_method_2_code (4 : Nat) (Option.some (Jvm.ClassFile.FieldType.array (Jvm.ClassFile.FieldType.array Jvm.ClassFile.FieldType.int)))) ∈ GW := gw_t 520 (by decide +kernel) rfl
theorem kw521 : (Jvm.Cond.classLink "FairyDustLaw$Sim" (7 : Nat) "[I") ∈ GW := gw_t 521 (by decide +kernel) rfl
theorem kw522 : (Jvm.Cond.arrayOver (Jvm.ClassFile.FieldType.array Jvm.ClassFile.FieldType.int)) ∈ GW := gw_t 522 (by decide +kernel) rfl
theorem kw523 : (Jvm.Cond.methodLink "FairyDustLaw" (28 : Nat) ({ cls := "FairyDust", name := "addWand", desc := "(II)I" } : Jvm.MethodName)) ∈ GW := gw_t 523 (by decide +kernel) rfl
theorem kw524 : (Jvm.Cond.instanceMethod ({ cls := "FairyDust", name := "addWand", desc := "(II)I" } : Jvm.MethodName)) ∈ GW := gw_t 524 (by decide +kernel) rfl
theorem kw525 : (Jvm.Cond.selects "FairyDust" ({ cls := "FairyDust", name := "addWand", desc := "(II)I" } : Jvm.MethodName) ({ cls := "FairyDust", name := "addWand", desc := "(II)I" } : Jvm.MethodName)) ∈ GW := gw_t 525 (by decide +kernel) rfl
theorem kw526 : (Jvm.Cond.code ({ cls := "FairyDust", name := "addWand", desc := "(II)I" } : Jvm.MethodName) prog_1_method_2_code (4 : Nat) (Option.some Jvm.ClassFile.FieldType.int)) ∈ GW := gw_t 526 (by decide +kernel) rfl
theorem kw527 : (Jvm.Cond.classLink "FairyDust" (44 : Nat) "java/lang/IllegalStateException") ∈ GW := gw_t 527 (by decide +kernel) rfl
theorem kw528 : (Jvm.Cond.instantiable "java/lang/IllegalStateException" (6 : Nat)) ∈ GW := gw_t 528 (by decide +kernel) rfl
theorem kw529 : (Jvm.Cond.castable "java/lang/IllegalStateException" "java/lang/IllegalStateException") ∈ GW := gw_t 529 (by decide +kernel) rfl
theorem kw530 : (Jvm.Cond.selects "java/lang/IllegalStateException" ({ cls := "java/lang/Throwable", name := "fillInStackTrace", desc := "(I)Ljava/lang/Throwable;" } : Jvm.MethodName) ({ cls := "java/lang/Throwable", name := "fillInStackTrace", desc := "(I)Ljava/lang/Throwable;" } : Jvm.MethodName)) ∈ GW := gw_t 530 (by decide +kernel) rfl
theorem kw531 : (Jvm.Cond.lays "java/lang/IllegalStateException" "java/lang/Throwable" "cause" "Ljava/lang/Throwable;") ∈ GW := gw_t 531 (by decide +kernel) rfl
theorem kw532 : (Jvm.Cond.lays "java/lang/IllegalStateException" "java/lang/Throwable" "stackTrace" "[Ljava/lang/StackTraceElement;") ∈ GW := gw_t 532 (by decide +kernel) rfl
theorem kw533 : (Jvm.Cond.lays "java/lang/IllegalStateException" "java/lang/Throwable" "suppressedExceptions" "Ljava/util/List;") ∈ GW := gw_t 533 (by decide +kernel) rfl
theorem kw534 : (Jvm.Cond.lays "java/lang/IllegalStateException" "java/lang/Throwable" "detailMessage" "Ljava/lang/String;") ∈ GW := gw_t 534 (by decide +kernel) rfl
theorem kw535 : (Jvm.Cond.lays "java/lang/IllegalStateException" "java/lang/Throwable" "backtrace" "Ljava/lang/Object;") ∈ GW := gw_t 535 (by decide +kernel) rfl
theorem kw537 : (Jvm.Cond.methodLink "FairyDust" (48 : Nat) ({ cls := "java/lang/IllegalStateException", name := "<init>", desc := "(Ljava/lang/String;)V" } : Jvm.MethodName)) ∈ GW := gw_t 537 (by decide +kernel) rfl
theorem kw538 : (Jvm.Cond.instanceMethod ({ cls := "java/lang/IllegalStateException", name := "<init>", desc := "(Ljava/lang/String;)V" } : Jvm.MethodName)) ∈ GW := gw_t 538 (by decide +kernel) rfl
theorem kw539 : (Jvm.Cond.code ({ cls := "java/lang/IllegalStateException", name := "<init>", desc := "(Ljava/lang/String;)V" } : Jvm.MethodName) prog_11_method_2_code (2 : Nat) (Option.none : Option Jvm.ClassFile.FieldType)) ∈ GW := gw_t 539 (by decide +kernel) rfl
theorem kw540 : (Jvm.Cond.methodLink "java/lang/IllegalStateException" (7 : Nat) ({ cls := "java/lang/RuntimeException", name := "<init>", desc := "(Ljava/lang/String;)V" } : Jvm.MethodName)) ∈ GW := gw_t 540 (by decide +kernel) rfl
theorem kw541 : (Jvm.Cond.lays "java/lang/IllegalStateException" "java/lang/Throwable" "depth" "I") ∈ GW := gw_t 541 (by decide +kernel) rfl
theorem kw542 : (Jvm.Cond.superclass "java/lang/IllegalStateException" "java/lang/RuntimeException") ∈ GW := gw_t 542 (by decide +kernel) rfl
theorem kw543 : (Jvm.Cond.arrayClass Jvm.ClassFile.FieldType.int) ∈ GW := gw_t 543 (by decide +kernel) rfl
theorem kw544 : (Jvm.Cond.methodLink "FairyDust" (51 : Nat) ({ cls := "java/util/ArrayList", name := "add", desc := "(Ljava/lang/Object;)Z" } : Jvm.MethodName)) ∈ GW := gw_t 544 (by decide +kernel) rfl
theorem kw545 : (Jvm.Cond.instanceMethod ({ cls := "java/util/ArrayList", name := "add", desc := "(Ljava/lang/Object;)Z" } : Jvm.MethodName)) ∈ GW := gw_t 545 (by decide +kernel) rfl
theorem kw546 : (Jvm.Cond.selects "java/util/ArrayList" ({ cls := "java/util/ArrayList", name := "add", desc := "(Ljava/lang/Object;)Z" } : Jvm.MethodName) ({ cls := "java/util/ArrayList", name := "add", desc := "(Ljava/lang/Object;)Z" } : Jvm.MethodName)) ∈ GW := gw_t 546 (by decide +kernel) rfl
theorem kw547 : (Jvm.Cond.code ({ cls := "java/util/ArrayList", name := "add", desc := "(Ljava/lang/Object;)Z" } : Jvm.MethodName) prog_21_method_25_code (2 : Nat) (Option.some Jvm.ClassFile.FieldType.boolean)) ∈ GW := gw_t 547 (by decide +kernel) rfl
theorem kw548 : (Jvm.Cond.methodLink "java/util/ArrayList" (131 : Nat) ({ cls := "java/util/ArrayList", name := "add", desc := "(Ljava/lang/Object;[Ljava/lang/Object;I)V" } : Jvm.MethodName)) ∈ GW := gw_t 548 (by decide +kernel) rfl
theorem kw550 : (Jvm.Cond.instanceMethod ({ cls := "java/util/ArrayList", name := "add", desc := "(Ljava/lang/Object;[Ljava/lang/Object;I)V" } : Jvm.MethodName)) ∈ GW := gw_t 550 (by decide +kernel) rfl
theorem kw551 : (Jvm.Cond.code ({ cls := "java/util/ArrayList", name := "add", desc := "(Ljava/lang/Object;[Ljava/lang/Object;I)V" } : Jvm.MethodName) prog_21_method_24_code (4 : Nat) (Option.none : Option Jvm.ClassFile.FieldType)) ∈ GW := gw_t 551 (by decide +kernel) rfl
theorem kw552 : (Jvm.Cond.methodLink "java/util/ArrayList" (129 : Nat) ({ cls := "java/util/ArrayList", name := "grow", desc := "()[Ljava/lang/Object;" } : Jvm.MethodName)) ∈ GW := gw_t 552 (by decide +kernel) rfl
theorem kw554 : (Jvm.Cond.instanceMethod ({ cls := "java/util/ArrayList", name := "grow", desc := "()[Ljava/lang/Object;" } : Jvm.MethodName)) ∈ GW := gw_t 554 (by decide +kernel) rfl
theorem kw555 : (Jvm.Cond.code ({ cls := "java/util/ArrayList", name := "grow", desc := "()[Ljava/lang/Object;" } : Jvm.MethodName) prog_21_method_7_code (1 : Nat) (Option.some (Jvm.ClassFile.FieldType.array (Jvm.ClassFile.FieldType.object "java/lang/Object")))) ∈ GW := gw_t 555 (by decide +kernel) rfl
theorem kw556 : (Jvm.Cond.methodLink "java/util/ArrayList" (69 : Nat) ({ cls := "java/util/ArrayList", name := "grow", desc := "(I)[Ljava/lang/Object;" } : Jvm.MethodName)) ∈ GW := gw_t 556 (by decide +kernel) rfl
theorem kw558 : (Jvm.Cond.instanceMethod ({ cls := "java/util/ArrayList", name := "grow", desc := "(I)[Ljava/lang/Object;" } : Jvm.MethodName)) ∈ GW := gw_t 558 (by decide +kernel) rfl
theorem kw559 : (Jvm.Cond.code ({ cls := "java/util/ArrayList", name := "grow", desc := "(I)[Ljava/lang/Object;" } : Jvm.MethodName) prog_21_method_6_code (4 : Nat) (Option.some (Jvm.ClassFile.FieldType.array (Jvm.ClassFile.FieldType.object "java/lang/Object")))) ∈ GW := gw_t 559 (by decide +kernel) rfl
theorem kw560 : (Jvm.Cond.methodLink "java/util/ArrayList" (73 : Nat) ({ cls := "jdk/internal/util/ArraysSupport", name := "newLength", desc := "(III)I" } : Jvm.MethodName)) ∈ GW := gw_t 560 (by decide +kernel) rfl
theorem kw561 : (Jvm.Cond.static ({ cls := "jdk/internal/util/ArraysSupport", name := "newLength", desc := "(III)I" } : Jvm.MethodName)) ∈ GW := gw_t 561 (by decide +kernel) rfl
theorem kw562 : (Jvm.Cond.code ({ cls := "jdk/internal/util/ArraysSupport", name := "newLength", desc := "(III)I" } : Jvm.MethodName) prog_28_method_27_code (4 : Nat) (Option.some Jvm.ClassFile.FieldType.int)) ∈ GW := gw_t 562 (by decide +kernel) rfl
theorem kw563 : (Jvm.Cond.methodLink "jdk/internal/util/ArraysSupport" (194 : Nat) ({ cls := "java/lang/Math", name := "max", desc := "(II)I" } : Jvm.MethodName)) ∈ GW := gw_t 563 (by decide +kernel) rfl
theorem kw564 : (Jvm.Cond.constant "jdk/internal/util/ArraysSupport" (200 : Nat) (2147483639 : Int32)) ∈ GW := gw_t 564 (by decide +kernel) rfl
theorem kw565 : (Jvm.Cond.methodLink "jdk/internal/util/ArraysSupport" (201 : Nat) ({ cls := "jdk/internal/util/ArraysSupport", name := "hugeLength", desc := "(II)I" } : Jvm.MethodName)) ∈ GW := gw_t 565 (by decide +kernel) rfl
theorem kw566 : (Jvm.Cond.static ({ cls := "jdk/internal/util/ArraysSupport", name := "hugeLength", desc := "(II)I" } : Jvm.MethodName)) ∈ GW := gw_t 566 (by decide +kernel) rfl
theorem kw567 : (Jvm.Cond.code ({ cls := "jdk/internal/util/ArraysSupport", name := "hugeLength", desc := "(II)I" } : Jvm.MethodName) prog_28_method_28_code (3 : Nat) (Option.some Jvm.ClassFile.FieldType.int)) ∈ GW := gw_t 567 (by decide +kernel) rfl
theorem kw568 : (Jvm.Cond.methodLink "java/util/ArrayList" (66 : Nat) ({ cls := "java/util/Arrays", name := "copyOf", desc := "([Ljava/lang/Object;I)[Ljava/lang/Object;" } : Jvm.MethodName)) ∈ GW := gw_t 568 (by decide +kernel) rfl
theorem kw569 : (Jvm.Cond.static ({ cls := "java/util/Arrays", name := "copyOf", desc := "([Ljava/lang/Object;I)[Ljava/lang/Object;" } : Jvm.MethodName)) ∈ GW := gw_t 569 (by decide +kernel) rfl
theorem kw570 : (Jvm.Cond.code ({ cls := "java/util/Arrays", name := "copyOf", desc := "([Ljava/lang/Object;I)[Ljava/lang/Object;" } : Jvm.MethodName) prog_22_method_119_code (2 : Nat) (Option.some (Jvm.ClassFile.FieldType.array (Jvm.ClassFile.FieldType.object "java/lang/Object")))) ∈ GW := gw_t 570 (by decide +kernel) rfl
theorem kw571 : (Jvm.Cond.methodLink "java/util/Arrays" (86 : Nat) ({ cls := "java/lang/Object", name := "getClass", desc := "()Ljava/lang/Class;" } : Jvm.MethodName)) ∈ GW := gw_t 571 (by decide +kernel) rfl
theorem kw572 : (Jvm.Cond.instanceMethod ({ cls := "java/lang/Object", name := "getClass", desc := "()Ljava/lang/Class;" } : Jvm.MethodName)) ∈ GW := gw_t 572 (by decide +kernel) rfl
theorem kw573 : (Jvm.Cond.sameMethod "java/lang/Object" "java/lang/Object" "getClass" "()Ljava/lang/Class;") ∈ GW := gw_t 573 (by decide +kernel) rfl
theorem kw574 : (Jvm.Cond.selects "FairyDust" ({ cls := "java/lang/Object", name := "getClass", desc := "()Ljava/lang/Class;" } : Jvm.MethodName) ({ cls := "java/lang/Object", name := "getClass", desc := "()Ljava/lang/Class;" } : Jvm.MethodName)) ∈ GW := gw_t 574 (by decide +kernel) rfl
theorem kw575 : (Jvm.Cond.selects "FairyDust$Child" ({ cls := "java/lang/Object", name := "getClass", desc := "()Ljava/lang/Class;" } : Jvm.MethodName) ({ cls := "java/lang/Object", name := "getClass", desc := "()Ljava/lang/Class;" } : Jvm.MethodName)) ∈ GW := gw_t 575 (by decide +kernel) rfl
theorem kw576 : (Jvm.Cond.selects "FairyDust$Wand" ({ cls := "java/lang/Object", name := "getClass", desc := "()Ljava/lang/Class;" } : Jvm.MethodName) ({ cls := "java/lang/Object", name := "getClass", desc := "()Ljava/lang/Class;" } : Jvm.MethodName)) ∈ GW := gw_t 576 (by decide +kernel) rfl
theorem kw577 : (Jvm.Cond.selects "FairyDustLaw$Sim" ({ cls := "java/lang/Object", name := "getClass", desc := "()Ljava/lang/Class;" } : Jvm.MethodName) ({ cls := "java/lang/Object", name := "getClass", desc := "()Ljava/lang/Class;" } : Jvm.MethodName)) ∈ GW := gw_t 577 (by decide +kernel) rfl
theorem kw578 : (Jvm.Cond.selects "java/lang/IllegalArgumentException" ({ cls := "java/lang/Object", name := "getClass", desc := "()Ljava/lang/Class;" } : Jvm.MethodName) ({ cls := "java/lang/Object", name := "getClass", desc := "()Ljava/lang/Class;" } : Jvm.MethodName)) ∈ GW := gw_t 578 (by decide +kernel) rfl
theorem kw579 : (Jvm.Cond.selects "java/lang/IllegalStateException" ({ cls := "java/lang/Object", name := "getClass", desc := "()Ljava/lang/Class;" } : Jvm.MethodName) ({ cls := "java/lang/Object", name := "getClass", desc := "()Ljava/lang/Class;" } : Jvm.MethodName)) ∈ GW := gw_t 579 (by decide +kernel) rfl
theorem kw580 : (Jvm.Cond.selects "java/lang/IndexOutOfBoundsException" ({ cls := "java/lang/Object", name := "getClass", desc := "()Ljava/lang/Class;" } : Jvm.MethodName) ({ cls := "java/lang/Object", name := "getClass", desc := "()Ljava/lang/Class;" } : Jvm.MethodName)) ∈ GW := gw_t 580 (by decide +kernel) rfl
theorem kw581 : (Jvm.Cond.selects "java/util/ArrayList" ({ cls := "java/lang/Object", name := "getClass", desc := "()Ljava/lang/Class;" } : Jvm.MethodName) ({ cls := "java/lang/Object", name := "getClass", desc := "()Ljava/lang/Class;" } : Jvm.MethodName)) ∈ GW := gw_t 581 (by decide +kernel) rfl
theorem kw582 : (Jvm.Cond.native ({ cls := "java/lang/Object", name := "getClass", desc := "()Ljava/lang/Class;" } : Jvm.MethodName)) ∈ GW := gw_t 582 (by decide +kernel) rfl
theorem kw583 : (Jvm.Cond.methodLink "java/util/Arrays" (300 : Nat) ({ cls := "java/util/Arrays", name := "copyOf", desc := "([Ljava/lang/Object;ILjava/lang/Class;)[Ljava/lang/Object;" } : Jvm.MethodName)) ∈ GW := gw_t 583 (by decide +kernel) rfl
theorem kw584 : (Jvm.Cond.static ({ cls := "java/util/Arrays", name := "copyOf", desc := "([Ljava/lang/Object;ILjava/lang/Class;)[Ljava/lang/Object;" } : Jvm.MethodName)) ∈ GW := gw_t 584 (by decide +kernel) rfl
theorem kw585 : (Jvm.Cond.code ({ cls := "java/util/Arrays", name := "copyOf", desc := "([Ljava/lang/Object;ILjava/lang/Class;)[Ljava/lang/Object;" } : Jvm.MethodName) prog_22_method_120_code (4 : Nat) (Option.some (Jvm.ClassFile.FieldType.array (Jvm.ClassFile.FieldType.object "java/lang/Object")))) ∈ GW := gw_t 585 (by decide +kernel) rfl
theorem kw586 : (Jvm.Cond.classLink "java/util/Arrays" (110 : Nat) "[Ljava/lang/Object;") ∈ GW := gw_t 586 (by decide +kernel) rfl
theorem kw587 : (Jvm.Cond.arrayOver (Jvm.ClassFile.FieldType.object "java/lang/Object")) ∈ GW := gw_t 587 (by decide +kernel) rfl
theorem kw588 : (Jvm.Cond.classLink "java/util/Arrays" (2 : Nat) "java/lang/Object") ∈ GW := gw_t 588 (by decide +kernel) rfl
theorem kw589 : (Jvm.Cond.methodLink "java/util/Arrays" (304 : Nat) ({ cls := "java/lang/Math", name := "min", desc := "(II)I" } : Jvm.MethodName)) ∈ GW := gw_t 589 (by decide +kernel) rfl
theorem kw590 : (Jvm.Cond.methodLink "java/util/Arrays" (150 : Nat) ({ cls := "java/lang/System", name := "arraycopy", desc := "(Ljava/lang/Object;ILjava/lang/Object;II)V" } : Jvm.MethodName)) ∈ GW := gw_t 590 (by decide +kernel) rfl
theorem kw591 : (Jvm.Cond.static ({ cls := "java/lang/System", name := "arraycopy", desc := "(Ljava/lang/Object;ILjava/lang/Object;II)V" } : Jvm.MethodName)) ∈ GW := gw_t 591 (by decide +kernel) rfl
theorem kw592 : (Jvm.Cond.native ({ cls := "java/lang/System", name := "arraycopy", desc := "(Ljava/lang/Object;ILjava/lang/Object;II)V" } : Jvm.MethodName)) ∈ GW := gw_t 592 (by decide +kernel) rfl
theorem kw593 : (Jvm.Cond.methodLink "java/util/ArrayList" (79 : Nat) ({ cls := "java/lang/Math", name := "max", desc := "(II)I" } : Jvm.MethodName)) ∈ GW := gw_t 593 (by decide +kernel) rfl
theorem kw594 : (Jvm.Cond.classLink "java/util/ArrayList" (7 : Nat) "java/lang/Object") ∈ GW := gw_t 594 (by decide +kernel) rfl
theorem kw595 : (Jvm.Cond.methodLink "FairyDustLaw" (33 : Nat) ({ cls := "FairyDustLaw$Sim", name := "isBirthday", desc := "(I)Z" } : Jvm.MethodName)) ∈ GW := gw_t 595 (by decide +kernel) rfl
theorem kw596 : (Jvm.Cond.methodLink "FairyDustLaw" (37 : Nat) ({ cls := "FairyDust", name := "addChild", desc := "(II)I" } : Jvm.MethodName)) ∈ GW := gw_t 596 (by decide +kernel) rfl
theorem kw597 : (Jvm.Cond.instanceMethod ({ cls := "FairyDust", name := "addChild", desc := "(II)I" } : Jvm.MethodName)) ∈ GW := gw_t 597 (by decide +kernel) rfl
theorem kw598 : (Jvm.Cond.selects "FairyDust" ({ cls := "FairyDust", name := "addChild", desc := "(II)I" } : Jvm.MethodName) ({ cls := "FairyDust", name := "addChild", desc := "(II)I" } : Jvm.MethodName)) ∈ GW := gw_t 598 (by decide +kernel) rfl
theorem kw599 : (Jvm.Cond.code ({ cls := "FairyDust", name := "addChild", desc := "(II)I" } : Jvm.MethodName) prog_1_method_3_code (6 : Nat) (Option.some Jvm.ClassFile.FieldType.int)) ∈ GW := gw_t 599 (by decide +kernel) rfl
theorem kw601 : (Jvm.Cond.methodLinkNest "FairyDust" (64 : Nat) ({ cls := "FairyDust$Child", name := "beginDay", desc := "(I)V" } : Jvm.MethodName) "FairyDust") ∈ GW := gw_t 601 (by decide +kernel) rfl
theorem kw602 : (Jvm.Cond.methodLink "FairyDustLaw" (40 : Nat) ({ cls := "FairyDust", name := "give", desc := "(II)I" } : Jvm.MethodName)) ∈ GW := gw_t 602 (by decide +kernel) rfl
theorem kw603 : (Jvm.Cond.instanceMethod ({ cls := "FairyDust", name := "give", desc := "(II)I" } : Jvm.MethodName)) ∈ GW := gw_t 603 (by decide +kernel) rfl
theorem kw604 : (Jvm.Cond.selects "FairyDust" ({ cls := "FairyDust", name := "give", desc := "(II)I" } : Jvm.MethodName) ({ cls := "FairyDust", name := "give", desc := "(II)I" } : Jvm.MethodName)) ∈ GW := gw_t 604 (by decide +kernel) rfl
theorem kw605 : (Jvm.Cond.code ({ cls := "FairyDust", name := "give", desc := "(II)I" } : Jvm.MethodName) prog_1_method_4_code (6 : Nat) (Option.some Jvm.ClassFile.FieldType.int)) ∈ GW := gw_t 605 (by decide +kernel) rfl
theorem kw606 : (Jvm.Cond.methodLink "FairyDustLaw" (43 : Nat) ({ cls := "FairyDust", name := "setFall", desc := "(II)I" } : Jvm.MethodName)) ∈ GW := gw_t 606 (by decide +kernel) rfl
theorem kw607 : (Jvm.Cond.instanceMethod ({ cls := "FairyDust", name := "setFall", desc := "(II)I" } : Jvm.MethodName)) ∈ GW := gw_t 607 (by decide +kernel) rfl
theorem kw608 : (Jvm.Cond.selects "FairyDust" ({ cls := "FairyDust", name := "setFall", desc := "(II)I" } : Jvm.MethodName) ({ cls := "FairyDust", name := "setFall", desc := "(II)I" } : Jvm.MethodName)) ∈ GW := gw_t 608 (by decide +kernel) rfl
theorem kw609 : (Jvm.Cond.code ({ cls := "FairyDust", name := "setFall", desc := "(II)I" } : Jvm.MethodName) prog_1_method_5_code (5 : Nat) (Option.some Jvm.ClassFile.FieldType.int)) ∈ GW := gw_t 609 (by decide +kernel) rfl
theorem kw610 : (Jvm.Cond.methodLink "FairyDustLaw" (46 : Nat) ({ cls := "FairyDust", name := "forgive", desc := "(I)I" } : Jvm.MethodName)) ∈ GW := gw_t 610 (by decide +kernel) rfl
theorem kw611 : (Jvm.Cond.instanceMethod ({ cls := "FairyDust", name := "forgive", desc := "(I)I" } : Jvm.MethodName)) ∈ GW := gw_t 611 (by decide +kernel) rfl
theorem kw612 : (Jvm.Cond.selects "FairyDust" ({ cls := "FairyDust", name := "forgive", desc := "(I)I" } : Jvm.MethodName) ({ cls := "FairyDust", name := "forgive", desc := "(I)I" } : Jvm.MethodName)) ∈ GW := gw_t 612 (by decide +kernel) rfl
theorem kw613 : (Jvm.Cond.code ({ cls := "FairyDust", name := "forgive", desc := "(I)I" } : Jvm.MethodName) prog_1_method_7_code (2 : Nat) (Option.some Jvm.ClassFile.FieldType.int)) ∈ GW := gw_t 613 (by decide +kernel) rfl
theorem kw614 : (Jvm.Cond.methodLinkNest "FairyDust" (95 : Nat) ({ cls := "FairyDust$Child", name := "letOff", desc := "()I" } : Jvm.MethodName) "FairyDust") ∈ GW := gw_t 614 (by decide +kernel) rfl
theorem kw616 : (Jvm.Cond.instanceMethod ({ cls := "FairyDust$Child", name := "letOff", desc := "()I" } : Jvm.MethodName)) ∈ GW := gw_t 616 (by decide +kernel) rfl
theorem kw617 : (Jvm.Cond.code ({ cls := "FairyDust$Child", name := "letOff", desc := "()I" } : Jvm.MethodName) prog_2_method_10_code (2 : Nat) (Option.some Jvm.ClassFile.FieldType.int)) ∈ GW := gw_t 617 (by decide +kernel) rfl
theorem kw618 : (Jvm.Cond.methodLink "FairyDustLaw" (69 : Nat) ({ cls := "FairyDustLaw", name := "build", desc := "(LFairyDust;[I)LFairyDustLaw$Sim;" } : Jvm.MethodName)) ∈ GW := gw_t 618 (by decide +kernel) rfl
theorem kw619 : (Jvm.Cond.static ({ cls := "FairyDustLaw", name := "build", desc := "(LFairyDust;[I)LFairyDustLaw$Sim;" } : Jvm.MethodName)) ∈ GW := gw_t 619 (by decide +kernel) rfl
theorem kw620 : (Jvm.Cond.code ({ cls := "FairyDustLaw", name := "build", desc := "(LFairyDust;[I)LFairyDustLaw$Sim;" } : Jvm.MethodName) method_5_code (5 : Nat) (Option.some (Jvm.ClassFile.FieldType.object "FairyDustLaw$Sim"))) ∈ GW := gw_t 620 (by decide +kernel) rfl
theorem kw621 : (Jvm.Cond.classLink "FairyDustLaw" (10 : Nat) "FairyDustLaw$Sim") ∈ GW := gw_t 621 (by decide +kernel) rfl
theorem kw622 : (Jvm.Cond.instantiable "FairyDustLaw$Sim" (5 : Nat)) ∈ GW := gw_t 622 (by decide +kernel) rfl
theorem kw623 : (Jvm.Cond.methodLinkNest "FairyDustLaw" (59 : Nat) ({ cls := "FairyDustLaw$Sim", name := "<init>", desc := "()V" } : Jvm.MethodName) "FairyDustLaw") ∈ GW := gw_t 623 (by decide +kernel) rfl
theorem kw624 : (Jvm.Cond.instanceMethod ({ cls := "FairyDustLaw$Sim", name := "<init>", desc := "()V" } : Jvm.MethodName)) ∈ GW := gw_t 624 (by decide +kernel) rfl
theorem kw625 : (Jvm.Cond.code ({ cls := "FairyDustLaw$Sim", name := "<init>", desc := "()V" } : Jvm.MethodName) prog_5_method_1_code (1 : Nat) (Option.none : Option Jvm.ClassFile.FieldType)) ∈ GW := gw_t 625 (by decide +kernel) rfl
theorem kw626 : (Jvm.Cond.methodLink "FairyDustLaw$Sim" (1 : Nat) ({ cls := "java/lang/Object", name := "<init>", desc := "()V" } : Jvm.MethodName)) ∈ GW := gw_t 626 (by decide +kernel) rfl
theorem kw627 : (Jvm.Cond.fieldLink "FairyDustLaw$Sim" (9 : Nat) "FairyDustLaw$Sim" "wands" "[[I") ∈ GW := gw_t 627 (by decide +kernel) rfl
theorem kw628 : (Jvm.Cond.fieldLink "FairyDustLaw" (9 : Nat) "FairyDustLaw$Sim" "wands" "[[I") ∈ GW := gw_t 628 (by decide +kernel) rfl
theorem kw629 : (Jvm.Cond.fieldLink "FairyDustLaw$Sim" (15 : Nat) "FairyDustLaw$Sim" "children" "[[I") ∈ GW := gw_t 629 (by decide +kernel) rfl
theorem kw630 : (Jvm.Cond.fieldLink "FairyDustLaw" (15 : Nat) "FairyDustLaw$Sim" "children" "[[I") ∈ GW := gw_t 630 (by decide +kernel) rfl
theorem kw631 : (Jvm.Cond.fieldLink "FairyDustLaw$Sim" (23 : Nat) "FairyDustLaw$Sim" "hour" "I") ∈ GW := gw_t 631 (by decide +kernel) rfl
theorem kw632 : (Jvm.Cond.fieldLink "FairyDustLaw$Sim" (27 : Nat) "FairyDustLaw$Sim" "granted" "I") ∈ GW := gw_t 632 (by decide +kernel) rfl
theorem kw633 : (Jvm.Cond.fieldLink "FairyDustLaw$Sim" (30 : Nat) "FairyDustLaw$Sim" "denied" "I") ∈ GW := gw_t 633 (by decide +kernel) rfl
theorem kw634 : (Jvm.Cond.lays "FairyDustLaw$Sim" "FairyDustLaw$Sim" "wands" "[[I") ∈ GW := gw_t 634 (by decide +kernel) rfl
theorem kw636 : (Jvm.Cond.lays "FairyDustLaw$Sim" "FairyDustLaw$Sim" "children" "[[I") ∈ GW := gw_t 636 (by decide +kernel) rfl
theorem kw638 : (Jvm.Cond.lays "FairyDustLaw$Sim" "FairyDustLaw$Sim" "hour" "I") ∈ GW := gw_t 638 (by decide +kernel) rfl
theorem kw640 : (Jvm.Cond.lays "FairyDustLaw$Sim" "FairyDustLaw$Sim" "granted" "I") ∈ GW := gw_t 640 (by decide +kernel) rfl
theorem kw642 : (Jvm.Cond.lays "FairyDustLaw$Sim" "FairyDustLaw$Sim" "denied" "I") ∈ GW := gw_t 642 (by decide +kernel) rfl
theorem kw644 : (Jvm.Cond.superclass "FairyDustLaw$Sim" "java/lang/Object") ∈ GW := gw_t 644 (by decide +kernel) rfl
theorem kw645 : (Jvm.Cond.methodLink "FairyDustLaw" (137 : Nat) ({ cls := "java/lang/Math", name := "max", desc := "(II)I" } : Jvm.MethodName)) ∈ GW := gw_t 645 (by decide +kernel) rfl
theorem kw646 : (Jvm.Cond.sameMethod "java/lang/Throwable" "java/lang/Throwable" "fillInStackTrace" "(I)Ljava/lang/Throwable;") ∈ GW := gw_t 646 (by decide +kernel) rfl
theorem kw647 : (Jvm.Cond.castable "FairyDust" "java/lang/Object") ∈ GW := gw_t 647 (by decide +kernel) rfl
theorem kw648 : (Jvm.Cond.castable "java/util/ArrayList" "java/lang/Object") ∈ GW := gw_t 648 (by decide +kernel) rfl
theorem kw649 : (Jvm.Cond.castable "FairyDust$Wand" "java/lang/Object") ∈ GW := gw_t 649 (by decide +kernel) rfl
theorem kw650 : (Jvm.Cond.castable "FairyDust$Child" "java/lang/Object") ∈ GW := gw_t 650 (by decide +kernel) rfl
theorem kw651 : (Jvm.Cond.castable "FairyDustLaw$Sim" "java/lang/Object") ∈ GW := gw_t 651 (by decide +kernel) rfl
theorem kw652 : (Jvm.Cond.castable "java/lang/IllegalArgumentException" "java/lang/Object") ∈ GW := gw_t 652 (by decide +kernel) rfl
theorem kw653 : (Jvm.Cond.castable "java/lang/IllegalStateException" "java/lang/Object") ∈ GW := gw_t 653 (by decide +kernel) rfl
theorem kw654 : (Jvm.Cond.castable "java/lang/IndexOutOfBoundsException" "java/lang/Object") ∈ GW := gw_t 654 (by decide +kernel) rfl
theorem kw655 : (Jvm.Cond.castable "java/lang/Throwable" "java/lang/Object") ∈ GW := gw_t 655 (by decide +kernel) rfl
theorem kw656 : (Jvm.Cond.castable "java/lang/String" "java/lang/Object") ∈ GW := gw_t 656 (by decide +kernel) rfl
theorem kw657 : (Jvm.Cond.sameMethod "[Ljava/lang/Object;" "java/lang/Object" "getClass" "()Ljava/lang/Class;") ∈ GW := gw_t 657 (by decide +kernel) rfl
theorem kw658 : (Jvm.Cond.selects "[Ljava/lang/Object;" ({ cls := "java/lang/Object", name := "getClass", desc := "()Ljava/lang/Class;" } : Jvm.MethodName) ({ cls := "java/lang/Object", name := "getClass", desc := "()Ljava/lang/Class;" } : Jvm.MethodName)) ∈ GW := gw_t 658 (by decide +kernel) rfl
theorem kw660 : (Jvm.Cond.castable "[B" "java/lang/Object") ∈ GW := gw_t 660 (by decide +kernel) rfl
theorem kw661 : (Jvm.Cond.castable "[[I" "java/lang/Object") ∈ GW := gw_t 661 (by decide +kernel) rfl
theorem kw662 : (Jvm.Cond.castable "[I" "java/lang/Object") ∈ GW := gw_t 662 (by decide +kernel) rfl
theorem kw663 : (Jvm.Cond.castable "[Ljava/lang/Object;" "java/lang/Object") ∈ GW := gw_t 663 (by decide +kernel) rfl
theorem kp0 : Cond.selects "FairyDust" (⟨"FairyDust", "childAt", "(I)LFairyDust$Child;"⟩ : MethodName) (⟨"FairyDust", "childAt", "(I)LFairyDust$Child;"⟩ : MethodName) ∈ GW := gw_p (q := (⟨"FairyDust", "childAt", "(I)LFairyDust$Child;"⟩, 7)) (List.mem_of_getElem? (i := 0) (by decide +kernel))
theorem kp1 : Cond.selects "java/lang/Throwable" (⟨"java/lang/Throwable", "fillInStackTrace", "(I)Ljava/lang/Throwable;"⟩ : MethodName) (⟨"java/lang/Throwable", "fillInStackTrace", "(I)Ljava/lang/Throwable;"⟩ : MethodName) ∈ GW := gw_p (q := (⟨"java/lang/Throwable", "fillInStackTrace", "(I)Ljava/lang/Throwable;"⟩, 6)) (List.mem_of_getElem? (i := 1) (by decide +kernel))
theorem kp2 : Cond.selects "FairyDust$Child" (⟨"FairyDust$Child", "makeWish", "(I)Z"⟩ : MethodName) (⟨"FairyDust$Child", "makeWish", "(I)Z"⟩ : MethodName) ∈ GW := gw_p (q := (⟨"FairyDust$Child", "makeWish", "(I)Z"⟩, 6)) (List.mem_of_getElem? (i := 2) (by decide +kernel))
theorem kp3 : Cond.selects "FairyDust$Child" (⟨"FairyDust$Child", "canHave", "(I)Z"⟩ : MethodName) (⟨"FairyDust$Child", "canHave", "(I)Z"⟩ : MethodName) ∈ GW := gw_p (q := (⟨"FairyDust$Child", "canHave", "(I)Z"⟩, 6)) (List.mem_of_getElem? (i := 3) (by decide +kernel))
theorem kp4 : Cond.selects "FairyDust$Child" (⟨"FairyDust$Child", "grainsAtHand", "()I"⟩ : MethodName) (⟨"FairyDust$Child", "grainsAtHand", "()I"⟩ : MethodName) ∈ GW := gw_p (q := (⟨"FairyDust$Child", "grainsAtHand", "()I"⟩, 6)) (List.mem_of_getElem? (i := 4) (by decide +kernel))
theorem kp5 : Cond.selects "FairyDust$Child" (⟨"FairyDust$Child", "isPunished", "()Z"⟩ : MethodName) (⟨"FairyDust$Child", "isPunished", "()Z"⟩ : MethodName) ∈ GW := gw_p (q := (⟨"FairyDust$Child", "isPunished", "()Z"⟩, 6)) (List.mem_of_getElem? (i := 5) (by decide +kernel))
theorem kp6 : Cond.selects "FairyDust$Child" (⟨"FairyDust$Child", "takeGrains", "(I)V"⟩ : MethodName) (⟨"FairyDust$Child", "takeGrains", "(I)V"⟩ : MethodName) ∈ GW := gw_p (q := (⟨"FairyDust$Child", "takeGrains", "(I)V"⟩, 6)) (List.mem_of_getElem? (i := 6) (by decide +kernel))
theorem kp7 : Cond.selects "FairyDust$Child" (⟨"FairyDust$Child", "dustLeftAfter", "(I)I"⟩ : MethodName) (⟨"FairyDust$Child", "dustLeftAfter", "(I)I"⟩ : MethodName) ∈ GW := gw_p (q := (⟨"FairyDust$Child", "dustLeftAfter", "(I)I"⟩, 6)) (List.mem_of_getElem? (i := 7) (by decide +kernel))
theorem kp8 : Cond.selects "FairyDust$Child" (⟨"FairyDust$Child", "takeMark", "()V"⟩ : MethodName) (⟨"FairyDust$Child", "takeMark", "()V"⟩ : MethodName) ∈ GW := gw_p (q := (⟨"FairyDust$Child", "takeMark", "()V"⟩, 6)) (List.mem_of_getElem? (i := 8) (by decide +kernel))
theorem kp9 : Cond.selects "FairyDust" (⟨"FairyDust", "passOneHour", "()I"⟩ : MethodName) (⟨"FairyDust", "passOneHour", "()I"⟩ : MethodName) ∈ GW := gw_p (q := (⟨"FairyDust", "passOneHour", "()I"⟩, 7)) (List.mem_of_getElem? (i := 9) (by decide +kernel))
theorem kp10 : Cond.selects "FairyDust$Wand" (⟨"FairyDust$Wand", "letFall", "()I"⟩ : MethodName) (⟨"FairyDust$Wand", "letFall", "()I"⟩ : MethodName) ∈ GW := gw_p (q := (⟨"FairyDust$Wand", "letFall", "()I"⟩, 4)) (List.mem_of_getElem? (i := 10) (by decide +kernel))
theorem kp11 : Cond.selects "FairyDust$Child" (⟨"FairyDust$Child", "liveTo", "(I)V"⟩ : MethodName) (⟨"FairyDust$Child", "liveTo", "(I)V"⟩ : MethodName) ∈ GW := gw_p (q := (⟨"FairyDust$Child", "liveTo", "(I)V"⟩, 6)) (List.mem_of_getElem? (i := 11) (by decide +kernel))
theorem kp12 : Cond.selects "FairyDust$Child" (⟨"FairyDust$Child", "beginDay", "(I)V"⟩ : MethodName) (⟨"FairyDust$Child", "beginDay", "(I)V"⟩ : MethodName) ∈ GW := gw_p (q := (⟨"FairyDust$Child", "beginDay", "(I)V"⟩, 6)) (List.mem_of_getElem? (i := 12) (by decide +kernel))
theorem kp13 : Cond.selects "FairyDust" (⟨"FairyDust", "wandAt", "(I)LFairyDust$Wand;"⟩ : MethodName) (⟨"FairyDust", "wandAt", "(I)LFairyDust$Wand;"⟩ : MethodName) ∈ GW := gw_p (q := (⟨"FairyDust", "wandAt", "(I)LFairyDust$Wand;"⟩, 7)) (List.mem_of_getElem? (i := 13) (by decide +kernel))
theorem kp14 : Cond.selects "FairyDust" (⟨"FairyDust", "beginTrial", "(LFairyDust$Child;)V"⟩ : MethodName) (⟨"FairyDust", "beginTrial", "(LFairyDust$Child;)V"⟩ : MethodName) ∈ GW := gw_p (q := (⟨"FairyDust", "beginTrial", "(LFairyDust$Child;)V"⟩, 7)) (List.mem_of_getElem? (i := 14) (by decide +kernel))
theorem kp15 : Cond.selects "FairyDust$Wand" (⟨"FairyDust$Wand", "copyFrom", "(LFairyDust$Wand;)V"⟩ : MethodName) (⟨"FairyDust$Wand", "copyFrom", "(LFairyDust$Wand;)V"⟩ : MethodName) ∈ GW := gw_p (q := (⟨"FairyDust$Wand", "copyFrom", "(LFairyDust$Wand;)V"⟩, 4)) (List.mem_of_getElem? (i := 15) (by decide +kernel))
theorem kp16 : Cond.selects "FairyDust$Child" (⟨"FairyDust$Child", "copyFrom", "(LFairyDust$Child;)V"⟩ : MethodName) (⟨"FairyDust$Child", "copyFrom", "(LFairyDust$Child;)V"⟩ : MethodName) ∈ GW := gw_p (q := (⟨"FairyDust$Child", "copyFrom", "(LFairyDust$Child;)V"⟩, 6)) (List.mem_of_getElem? (i := 16) (by decide +kernel))
theorem kp17 : Cond.selects "FairyDust" (⟨"FairyDust", "passTrialHour", "(I)V"⟩ : MethodName) (⟨"FairyDust", "passTrialHour", "(I)V"⟩ : MethodName) ∈ GW := gw_p (q := (⟨"FairyDust", "passTrialHour", "(I)V"⟩, 7)) (List.mem_of_getElem? (i := 17) (by decide +kernel))
theorem kp18 : Cond.selects "FairyDust" (⟨"FairyDust", "tryWishes", "(II)I"⟩ : MethodName) (⟨"FairyDust", "tryWishes", "(II)I"⟩ : MethodName) ∈ GW := gw_p (q := (⟨"FairyDust", "tryWishes", "(II)I"⟩, 7)) (List.mem_of_getElem? (i := 18) (by decide +kernel))
theorem kp19 : Cond.selects "FairyDust$Wand" (⟨"FairyDust$Wand", "isFullAfter", "(I)Z"⟩ : MethodName) (⟨"FairyDust$Wand", "isFullAfter", "(I)Z"⟩ : MethodName) ∈ GW := gw_p (q := (⟨"FairyDust$Wand", "isFullAfter", "(I)Z"⟩, 4)) (List.mem_of_getElem? (i := 19) (by decide +kernel))
theorem kp20 : Cond.selects "FairyDust" (⟨"FairyDust", "withWand", "(JI)J"⟩ : MethodName) (⟨"FairyDust", "withWand", "(JI)J"⟩ : MethodName) ∈ GW := gw_p (q := (⟨"FairyDust", "withWand", "(JI)J"⟩, 7)) (List.mem_of_getElem? (i := 20) (by decide +kernel))
theorem kp21 : Cond.selects "FairyDust" (⟨"FairyDust", "withChild", "(JI)J"⟩ : MethodName) (⟨"FairyDust", "withChild", "(JI)J"⟩ : MethodName) ∈ GW := gw_p (q := (⟨"FairyDust", "withChild", "(JI)J"⟩, 7)) (List.mem_of_getElem? (i := 21) (by decide +kernel))
theorem kp22 : Cond.selects "java/util/ArrayList" (⟨"java/util/ArrayList", "add", "(Ljava/lang/Object;[Ljava/lang/Object;I)V"⟩ : MethodName) (⟨"java/util/ArrayList", "add", "(Ljava/lang/Object;[Ljava/lang/Object;I)V"⟩ : MethodName) ∈ GW := gw_p (q := (⟨"java/util/ArrayList", "add", "(Ljava/lang/Object;[Ljava/lang/Object;I)V"⟩, 3)) (List.mem_of_getElem? (i := 22) (by decide +kernel))
theorem kp23 : Cond.selects "java/util/ArrayList" (⟨"java/util/ArrayList", "grow", "()[Ljava/lang/Object;"⟩ : MethodName) (⟨"java/util/ArrayList", "grow", "()[Ljava/lang/Object;"⟩ : MethodName) ∈ GW := gw_p (q := (⟨"java/util/ArrayList", "grow", "()[Ljava/lang/Object;"⟩, 3)) (List.mem_of_getElem? (i := 23) (by decide +kernel))
theorem kp24 : Cond.selects "java/util/ArrayList" (⟨"java/util/ArrayList", "grow", "(I)[Ljava/lang/Object;"⟩ : MethodName) (⟨"java/util/ArrayList", "grow", "(I)[Ljava/lang/Object;"⟩ : MethodName) ∈ GW := gw_p (q := (⟨"java/util/ArrayList", "grow", "(I)[Ljava/lang/Object;"⟩, 3)) (List.mem_of_getElem? (i := 24) (by decide +kernel))
theorem kp25 : Cond.selects "FairyDust$Child" (⟨"FairyDust$Child", "letOff", "()I"⟩ : MethodName) (⟨"FairyDust$Child", "letOff", "()I"⟩ : MethodName) ∈ GW := gw_p (q := (⟨"FairyDust$Child", "letOff", "()I"⟩, 6)) (List.mem_of_getElem? (i := 25) (by decide +kernel))
