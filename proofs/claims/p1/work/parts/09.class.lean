theorem k380 : (Jvm.Cond.code ({ cls := "HeroTable$Table", name := "clear", desc := "()V" } : Jvm.MethodName) prog_7_method_2_code (1 : Nat) (Option.none : Option Jvm.ClassFile.FieldType)) ∈ G9 := g9 380 (by decide +kernel) rfl
theorem k377 : (Jvm.Cond.methodLink "HeroTable$Transcript" (25 : Nat) ({ cls := "HeroTable$Table", name := "clear", desc := "()V" } : Jvm.MethodName)) ∈ G9 := g9 377 (by decide +kernel) rfl
theorem ok_X5_clear : okN yX5_clear 0 := by decide +kernel
theorem k378 : (Jvm.Cond.instanceMethod ({ cls := "HeroTable$Table", name := "clear", desc := "()V" } : Jvm.MethodName)) ∈ G9 := g9 378 (by decide +kernel) rfl
theorem k379 : (Jvm.Cond.selects "HeroTable$Table" ({ cls := "HeroTable$Table", name := "clear", desc := "()V" } : Jvm.MethodName) ({ cls := "HeroTable$Table", name := "clear", desc := "()V" } : Jvm.MethodName)) ∈ G9 := g9 379 (by decide +kernel) rfl
theorem k828 : (Jvm.Cond.constant "HeroTable" (264 : Nat) (-1000001 : Int32)) ∈ G9 := g9 828 (by decide +kernel) rfl
theorem k900 : (Jvm.Cond.constant "HeroTable" (267 : Nat) (-1000002 : Int32)) ∈ G9 := g9 900 (by decide +kernel) rfl
theorem k917 : (Jvm.Cond.constant "HeroTable" (270 : Nat) (-1000003 : Int32)) ∈ G9 := g9 917 (by decide +kernel) rfl
theorem k934 : (Jvm.Cond.constant "HeroTable" (276 : Nat) (-1000004 : Int32)) ∈ G9 := g9 934 (by decide +kernel) rfl
theorem k951 : (Jvm.Cond.constant "HeroTable" (282 : Nat) (-1000005 : Int32)) ∈ G9 := g9 951 (by decide +kernel) rfl
theorem k64 : (Jvm.Cond.initialized "java/lang/Throwable") ∈ G9 := g9 64 (by decide +kernel) rfl
theorem k851 : (Jvm.Cond.superclass "java/lang/Throwable" "java/lang/Object") ∈ G9 := g9 851 (by decide +kernel) rfl
theorem k860 : (Jvm.Cond.instanceMethod ({ cls := "java/lang/Throwable", name := "fillInStackTrace", desc := "()Ljava/lang/Throwable;" } : Jvm.MethodName)) ∈ G9 := g9 860 (by decide +kernel) rfl
theorem k868 : (Jvm.Cond.codeSync ({ cls := "java/lang/Throwable", name := "fillInStackTrace", desc := "()Ljava/lang/Throwable;" } : Jvm.MethodName) prog_38_method_18_code (1 : Nat) (Option.some (Jvm.ClassFile.FieldType.object "java/lang/Throwable"))) ∈ G9 := g9 868 (by decide +kernel) rfl
theorem k871 : (Jvm.Cond.instanceMethod ({ cls := "java/lang/Throwable", name := "fillInStackTrace", desc := "(I)Ljava/lang/Throwable;" } : Jvm.MethodName)) ∈ G9 := g9 871 (by decide +kernel) rfl
theorem k873 : (Jvm.Cond.native ({ cls := "java/lang/Throwable", name := "fillInStackTrace", desc := "(I)Ljava/lang/Throwable;" } : Jvm.MethodName)) ∈ G9 := g9 873 (by decide +kernel) rfl
theorem k852 : (Jvm.Cond.instanceMethod ({ cls := "java/lang/Throwable", name := "<init>", desc := "()V" } : Jvm.MethodName)) ∈ G9 := g9 852 (by decide +kernel) rfl
theorem k853 : (Jvm.Cond.code ({ cls := "java/lang/Throwable", name := "<init>", desc := "()V" } : Jvm.MethodName) prog_38_method_1_code (1 : Nat) (Option.none : Option Jvm.ClassFile.FieldType)) ∈ G9 := g9 853 (by decide +kernel) rfl
theorem k854 : (Jvm.Cond.methodLink "java/lang/Throwable" (1 : Nat) ({ cls := "java/lang/Object", name := "<init>", desc := "()V" } : Jvm.MethodName)) ∈ G9 := g9 854 (by decide +kernel) rfl
theorem k859 : (Jvm.Cond.methodLink "java/lang/Throwable" (27 : Nat) ({ cls := "java/lang/Throwable", name := "fillInStackTrace", desc := "()Ljava/lang/Throwable;" } : Jvm.MethodName)) ∈ G9 := g9 859 (by decide +kernel) rfl
theorem k869 : (Jvm.Cond.methodLink "java/lang/Throwable" (202 : Nat) ({ cls := "java/lang/Throwable", name := "fillInStackTrace", desc := "(I)Ljava/lang/Throwable;" } : Jvm.MethodName)) ∈ G9 := g9 869 (by decide +kernel) rfl
theorem k889 : (Jvm.Cond.fieldLink "java/lang/Throwable" (7 : Nat) "java/lang/Throwable" "cause" "Ljava/lang/Throwable;") ∈ G9 := g9 889 (by decide +kernel) rfl
theorem k841 : (Jvm.Cond.lays "java/lang/Throwable" "java/lang/Throwable" "cause" "Ljava/lang/Throwable;") ∈ G9 := g9 841 (by decide +kernel) rfl
theorem k890 : (Jvm.Cond.fieldLink "java/lang/Throwable" (17 : Nat) "java/lang/Throwable" "stackTrace" "[Ljava/lang/StackTraceElement;") ∈ G9 := g9 890 (by decide +kernel) rfl
theorem k843 : (Jvm.Cond.lays "java/lang/Throwable" "java/lang/Throwable" "stackTrace" "[Ljava/lang/StackTraceElement;") ∈ G9 := g9 843 (by decide +kernel) rfl
theorem k891 : (Jvm.Cond.fieldLink "java/lang/Throwable" (24 : Nat) "java/lang/Throwable" "suppressedExceptions" "Ljava/util/List;") ∈ G9 := g9 891 (by decide +kernel) rfl
theorem k845 : (Jvm.Cond.lays "java/lang/Throwable" "java/lang/Throwable" "suppressedExceptions" "Ljava/util/List;") ∈ G9 := g9 845 (by decide +kernel) rfl
theorem k855 : (Jvm.Cond.fieldLink "java/lang/Throwable" (13 : Nat) "java/lang/Throwable" "UNASSIGNED_STACK" "[Ljava/lang/StackTraceElement;") ∈ G9 := g9 855 (by decide +kernel) rfl
theorem k857 : (Jvm.Cond.fieldLink "java/lang/Throwable" (20 : Nat) "java/lang/Throwable" "SUPPRESSED_SENTINEL" "Ljava/util/List;") ∈ G9 := g9 857 (by decide +kernel) rfl
theorem k847 : (Jvm.Cond.lays "java/lang/Throwable" "java/lang/Throwable" "detailMessage" "Ljava/lang/String;") ∈ G9 := g9 847 (by decide +kernel) rfl
theorem k885 : (Jvm.Cond.instanceMethod ({ cls := "java/lang/Throwable", name := "<init>", desc := "(Ljava/lang/String;)V" } : Jvm.MethodName)) ∈ G9 := g9 885 (by decide +kernel) rfl
theorem k886 : (Jvm.Cond.code ({ cls := "java/lang/Throwable", name := "<init>", desc := "(Ljava/lang/String;)V" } : Jvm.MethodName) prog_38_method_2_code (2 : Nat) (Option.none : Option Jvm.ClassFile.FieldType)) ∈ G9 := g9 886 (by decide +kernel) rfl
theorem k888 : (Jvm.Cond.fieldLink "java/lang/Throwable" (31 : Nat) "java/lang/Throwable" "detailMessage" "Ljava/lang/String;") ∈ G9 := g9 888 (by decide +kernel) rfl
theorem k876 : (Jvm.Cond.instanceMethod ({ cls := "java/lang/IndexOutOfBoundsException", name := "<init>", desc := "(Ljava/lang/String;)V" } : Jvm.MethodName)) ∈ G9 := g9 876 (by decide +kernel) rfl
theorem k877 : (Jvm.Cond.code ({ cls := "java/lang/IndexOutOfBoundsException", name := "<init>", desc := "(Ljava/lang/String;)V" } : Jvm.MethodName) prog_26_method_2_code (2 : Nat) (Option.none : Option Jvm.ClassFile.FieldType)) ∈ G9 := g9 877 (by decide +kernel) rfl
theorem k878 : (Jvm.Cond.methodLink "java/lang/IndexOutOfBoundsException" (7 : Nat) ({ cls := "java/lang/RuntimeException", name := "<init>", desc := "(Ljava/lang/String;)V" } : Jvm.MethodName)) ∈ G9 := g9 878 (by decide +kernel) rfl
theorem k879 : (Jvm.Cond.instanceMethod ({ cls := "java/lang/RuntimeException", name := "<init>", desc := "(Ljava/lang/String;)V" } : Jvm.MethodName)) ∈ G9 := g9 879 (by decide +kernel) rfl
theorem k880 : (Jvm.Cond.code ({ cls := "java/lang/RuntimeException", name := "<init>", desc := "(Ljava/lang/String;)V" } : Jvm.MethodName) prog_32_method_2_code (2 : Nat) (Option.none : Option Jvm.ClassFile.FieldType)) ∈ G9 := g9 880 (by decide +kernel) rfl
theorem k881 : (Jvm.Cond.methodLink "java/lang/RuntimeException" (7 : Nat) ({ cls := "java/lang/Exception", name := "<init>", desc := "(Ljava/lang/String;)V" } : Jvm.MethodName)) ∈ G9 := g9 881 (by decide +kernel) rfl
theorem k882 : (Jvm.Cond.instanceMethod ({ cls := "java/lang/Exception", name := "<init>", desc := "(Ljava/lang/String;)V" } : Jvm.MethodName)) ∈ G9 := g9 882 (by decide +kernel) rfl
theorem k883 : (Jvm.Cond.code ({ cls := "java/lang/Exception", name := "<init>", desc := "(Ljava/lang/String;)V" } : Jvm.MethodName) prog_23_method_2_code (2 : Nat) (Option.none : Option Jvm.ClassFile.FieldType)) ∈ G9 := g9 883 (by decide +kernel) rfl
theorem k884 : (Jvm.Cond.methodLink "java/lang/Exception" (7 : Nat) ({ cls := "java/lang/Throwable", name := "<init>", desc := "(Ljava/lang/String;)V" } : Jvm.MethodName)) ∈ G9 := g9 884 (by decide +kernel) rfl
theorem k875 : (Jvm.Cond.methodLink "HeroTable" (117 : Nat) ({ cls := "java/lang/IndexOutOfBoundsException", name := "<init>", desc := "(Ljava/lang/String;)V" } : Jvm.MethodName)) ∈ G9 := g9 875 (by decide +kernel) rfl
theorem k830 : (Jvm.Cond.instantiable "java/lang/IndexOutOfBoundsException" (6 : Nat)) ∈ G9 := g9 830 (by decide +kernel) rfl
theorem k838 : (Jvm.Cond.selects "java/lang/IndexOutOfBoundsException" ({ cls := "java/lang/Throwable", name := "fillInStackTrace", desc := "(I)Ljava/lang/Throwable;" } : Jvm.MethodName) ({ cls := "java/lang/Throwable", name := "fillInStackTrace", desc := "(I)Ljava/lang/Throwable;" } : Jvm.MethodName)) ∈ G9 := g9 838 (by decide +kernel) rfl
theorem k839 : (Jvm.Cond.selects "java/lang/IndexOutOfBoundsException" ({ cls := "java/lang/Throwable", name := "fillInStackTrace", desc := "()Ljava/lang/Throwable;" } : Jvm.MethodName) ({ cls := "java/lang/Throwable", name := "fillInStackTrace", desc := "()Ljava/lang/Throwable;" } : Jvm.MethodName)) ∈ G9 := g9 839 (by decide +kernel) rfl
theorem k840 : (Jvm.Cond.lays "java/lang/IndexOutOfBoundsException" "java/lang/Throwable" "cause" "Ljava/lang/Throwable;") ∈ G9 := g9 840 (by decide +kernel) rfl
theorem k842 : (Jvm.Cond.lays "java/lang/IndexOutOfBoundsException" "java/lang/Throwable" "stackTrace" "[Ljava/lang/StackTraceElement;") ∈ G9 := g9 842 (by decide +kernel) rfl
theorem k844 : (Jvm.Cond.lays "java/lang/IndexOutOfBoundsException" "java/lang/Throwable" "suppressedExceptions" "Ljava/util/List;") ∈ G9 := g9 844 (by decide +kernel) rfl
theorem k846 : (Jvm.Cond.lays "java/lang/IndexOutOfBoundsException" "java/lang/Throwable" "detailMessage" "Ljava/lang/String;") ∈ G9 := g9 846 (by decide +kernel) rfl
theorem k850 : (Jvm.Cond.fieldLink "java/lang/Throwable" (198 : Nat) "java/lang/Throwable" "backtrace" "Ljava/lang/Object;") ∈ G9 := g9 850 (by decide +kernel) rfl
theorem k849 : (Jvm.Cond.lays "java/lang/Throwable" "java/lang/Throwable" "backtrace" "Ljava/lang/Object;") ∈ G9 := g9 849 (by decide +kernel) rfl
theorem k848 : (Jvm.Cond.lays "java/lang/IndexOutOfBoundsException" "java/lang/Throwable" "backtrace" "Ljava/lang/Object;") ∈ G9 := g9 848 (by decide +kernel) rfl
theorem hae_X7_117 : vx_atS "HeroTable" 117 "java/lang/IndexOutOfBoundsException" ["java/lang/RuntimeException", "java/lang/Exception"] = [Jvm.Cond.initialized "java/lang/Throwable", Jvm.Cond.superclass "java/lang/Throwable" "java/lang/Object", Jvm.Cond.instanceMethod ({ cls := "java/lang/Throwable", name := "fillInStackTrace", desc := "()Ljava/lang/Throwable;" } : Jvm.MethodName), Jvm.Cond.codeSync ({ cls := "java/lang/Throwable", name := "fillInStackTrace", desc := "()Ljava/lang/Throwable;" } : Jvm.MethodName) prog_38_method_18_code (1 : Nat) (Option.some (Jvm.ClassFile.FieldType.object "java/lang/Throwable")), Jvm.Cond.instanceMethod ({ cls := "java/lang/Throwable", name := "fillInStackTrace", desc := "(I)Ljava/lang/Throwable;" } : Jvm.MethodName), Jvm.Cond.native ({ cls := "java/lang/Throwable", name := "fillInStackTrace", desc := "(I)Ljava/lang/Throwable;" } : Jvm.MethodName), Jvm.Cond.instanceMethod ({ cls := "java/lang/Throwable", name := "<init>", desc := "()V" } : Jvm.MethodName), Jvm.Cond.code ({ cls := "java/lang/Throwable", name := "<init>", desc := "()V" } : Jvm.MethodName) prog_38_method_1_code (1 : Nat) (Option.none : Option Jvm.ClassFile.FieldType), Jvm.Cond.instanceMethod ({ cls := "java/lang/Object", name := "<init>", desc := "()V" } : Jvm.MethodName), Jvm.Cond.code ({ cls := "java/lang/Object", name := "<init>", desc := "()V" } : Jvm.MethodName) object_method_1_code (1 : Nat) (Option.none : Option Jvm.ClassFile.FieldType), Jvm.Cond.methodLink "java/lang/Throwable" (1 : Nat) ({ cls := "java/lang/Object", name := "<init>", desc := "()V" } : Jvm.MethodName), Jvm.Cond.methodLink "java/lang/Throwable" (27 : Nat) ({ cls := "java/lang/Throwable", name := "fillInStackTrace", desc := "()Ljava/lang/Throwable;" } : Jvm.MethodName), Jvm.Cond.methodLink "java/lang/Throwable" (202 : Nat) ({ cls := "java/lang/Throwable", name := "fillInStackTrace", desc := "(I)Ljava/lang/Throwable;" } : Jvm.MethodName), Jvm.Cond.fieldLink "java/lang/Throwable" (7 : Nat) "java/lang/Throwable" "cause" "Ljava/lang/Throwable;", Jvm.Cond.lays "java/lang/Throwable" "java/lang/Throwable" "cause" "Ljava/lang/Throwable;", Jvm.Cond.fieldLink "java/lang/Throwable" (17 : Nat) "java/lang/Throwable" "stackTrace" "[Ljava/lang/StackTraceElement;", Jvm.Cond.lays "java/lang/Throwable" "java/lang/Throwable" "stackTrace" "[Ljava/lang/StackTraceElement;", Jvm.Cond.fieldLink "java/lang/Throwable" (24 : Nat) "java/lang/Throwable" "suppressedExceptions" "Ljava/util/List;", Jvm.Cond.lays "java/lang/Throwable" "java/lang/Throwable" "suppressedExceptions" "Ljava/util/List;", Jvm.Cond.fieldLink "java/lang/Throwable" (13 : Nat) "java/lang/Throwable" "UNASSIGNED_STACK" "[Ljava/lang/StackTraceElement;", Jvm.Cond.fieldLink "java/lang/Throwable" (20 : Nat) "java/lang/Throwable" "SUPPRESSED_SENTINEL" "Ljava/util/List;", Jvm.Cond.lays "java/lang/Throwable" "java/lang/Throwable" "detailMessage" "Ljava/lang/String;", Jvm.Cond.instanceMethod ({ cls := "java/lang/Throwable", name := "<init>", desc := "(Ljava/lang/String;)V" } : Jvm.MethodName), Jvm.Cond.code ({ cls := "java/lang/Throwable", name := "<init>", desc := "(Ljava/lang/String;)V" } : Jvm.MethodName) prog_38_method_2_code (2 : Nat) (Option.none : Option Jvm.ClassFile.FieldType), Jvm.Cond.fieldLink "java/lang/Throwable" (31 : Nat) "java/lang/Throwable" "detailMessage" "Ljava/lang/String;", Jvm.Cond.lays "java/lang/Throwable" "java/lang/Throwable" "detailMessage" "Ljava/lang/String;", Jvm.Cond.instanceMethod ({ cls := "java/lang/IndexOutOfBoundsException", name := "<init>", desc := "(Ljava/lang/String;)V" } : Jvm.MethodName), Jvm.Cond.code ({ cls := "java/lang/IndexOutOfBoundsException", name := "<init>", desc := "(Ljava/lang/String;)V" } : Jvm.MethodName) prog_26_method_2_code (2 : Nat) (Option.none : Option Jvm.ClassFile.FieldType), Jvm.Cond.methodLink "java/lang/IndexOutOfBoundsException" (7 : Nat) ({ cls := "java/lang/RuntimeException", name := "<init>", desc := "(Ljava/lang/String;)V" } : Jvm.MethodName), Jvm.Cond.instanceMethod ({ cls := "java/lang/RuntimeException", name := "<init>", desc := "(Ljava/lang/String;)V" } : Jvm.MethodName), Jvm.Cond.declares ({ cls := "java/lang/RuntimeException", name := "<init>", desc := "(Ljava/lang/String;)V" } : Jvm.MethodName), Jvm.Cond.instanceMethod ({ cls := "java/lang/RuntimeException", name := "<init>", desc := "(Ljava/lang/String;)V" } : Jvm.MethodName), Jvm.Cond.code ({ cls := "java/lang/RuntimeException", name := "<init>", desc := "(Ljava/lang/String;)V" } : Jvm.MethodName) prog_32_method_2_code (2 : Nat) (Option.none : Option Jvm.ClassFile.FieldType), Jvm.Cond.methodLink "java/lang/RuntimeException" (7 : Nat) ({ cls := "java/lang/Exception", name := "<init>", desc := "(Ljava/lang/String;)V" } : Jvm.MethodName), Jvm.Cond.instanceMethod ({ cls := "java/lang/Exception", name := "<init>", desc := "(Ljava/lang/String;)V" } : Jvm.MethodName), Jvm.Cond.declares ({ cls := "java/lang/Exception", name := "<init>", desc := "(Ljava/lang/String;)V" } : Jvm.MethodName), Jvm.Cond.instanceMethod ({ cls := "java/lang/Exception", name := "<init>", desc := "(Ljava/lang/String;)V" } : Jvm.MethodName), Jvm.Cond.code ({ cls := "java/lang/Exception", name := "<init>", desc := "(Ljava/lang/String;)V" } : Jvm.MethodName) prog_23_method_2_code (2 : Nat) (Option.none : Option Jvm.ClassFile.FieldType), Jvm.Cond.methodLink "java/lang/Exception" (7 : Nat) ({ cls := "java/lang/Throwable", name := "<init>", desc := "(Ljava/lang/String;)V" } : Jvm.MethodName), Jvm.Cond.instanceMethod ({ cls := "java/lang/Throwable", name := "<init>", desc := "(Ljava/lang/String;)V" } : Jvm.MethodName), Jvm.Cond.declares ({ cls := "java/lang/Throwable", name := "<init>", desc := "(Ljava/lang/String;)V" } : Jvm.MethodName), Jvm.Cond.methodLink "HeroTable" (117 : Nat) ({ cls := "java/lang/IndexOutOfBoundsException", name := "<init>", desc := "(Ljava/lang/String;)V" } : Jvm.MethodName), Jvm.Cond.instantiable "java/lang/IndexOutOfBoundsException" (6 : Nat), Jvm.Cond.castable "java/lang/IndexOutOfBoundsException" "java/lang/IndexOutOfBoundsException", Jvm.Cond.selects "java/lang/IndexOutOfBoundsException" ({ cls := "java/lang/Throwable", name := "fillInStackTrace", desc := "(I)Ljava/lang/Throwable;" } : Jvm.MethodName) ({ cls := "java/lang/Throwable", name := "fillInStackTrace", desc := "(I)Ljava/lang/Throwable;" } : Jvm.MethodName), Jvm.Cond.selects "java/lang/IndexOutOfBoundsException" ({ cls := "java/lang/Throwable", name := "fillInStackTrace", desc := "()Ljava/lang/Throwable;" } : Jvm.MethodName) ({ cls := "java/lang/Throwable", name := "fillInStackTrace", desc := "()Ljava/lang/Throwable;" } : Jvm.MethodName), Jvm.Cond.lays "java/lang/IndexOutOfBoundsException" "java/lang/Throwable" "cause" "Ljava/lang/Throwable;", Jvm.Cond.lays "java/lang/IndexOutOfBoundsException" "java/lang/Throwable" "stackTrace" "[Ljava/lang/StackTraceElement;", Jvm.Cond.lays "java/lang/IndexOutOfBoundsException" "java/lang/Throwable" "suppressedExceptions" "Ljava/util/List;", Jvm.Cond.lays "java/lang/IndexOutOfBoundsException" "java/lang/Throwable" "detailMessage" "Ljava/lang/String;", Jvm.Cond.fieldLink "java/lang/Throwable" (198 : Nat) "java/lang/Throwable" "backtrace" "Ljava/lang/Object;", Jvm.Cond.lays "java/lang/Throwable" "java/lang/Throwable" "backtrace" "Ljava/lang/Object;", Jvm.Cond.lays "java/lang/IndexOutOfBoundsException" "java/lang/Throwable" "backtrace" "Ljava/lang/Object;"] := by decide +kernel
theorem hat_X7_117 {args : Array Value} {s : State} (htg : ∀ w ∈ G9, w.before args s = true) (ht : TF s) : ∀ w ∈ vx_atS "HeroTable" 117 "java/lang/IndexOutOfBoundsException" ["java/lang/RuntimeException", "java/lang/Exception"], w.before args s = true := by
  rw [hae_X7_117]
  exact vx_c (htg _ k64) (vx_c (htg _ k851) (vx_c (htg _ k860) (vx_c (htg _ k868) (vx_c (htg _ k871) (vx_c (htg _ k873) (vx_c (htg _ k852) (vx_c (htg _ k853) (vx_c (htg _ k98) (vx_c (htg _ k99) (vx_c (htg _ k854) (vx_c (htg _ k859) (vx_c (htg _ k869) (vx_c (htg _ k889) (vx_c (htg _ k841) (vx_c (htg _ k890) (vx_c (htg _ k843) (vx_c (htg _ k891) (vx_c (htg _ k845) (vx_c (htg _ k855) (vx_c (htg _ k857) (vx_c (htg _ k847) (vx_c (htg _ k885) (vx_c (htg _ k886) (vx_c (htg _ k888) (vx_c (htg _ k847) (vx_c (htg _ k876) (vx_c (htg _ k877) (vx_c (htg _ k878) (vx_c (htg _ k879) (vx_c (va_Nw.use rfl ht.2.2.2.2.2.2.2.2.1) (vx_c (htg _ k879) (vx_c (htg _ k880) (vx_c (htg _ k881) (vx_c (htg _ k882) (vx_c (va_Nw.use rfl ht.2.2.2.2.2.2.2.2.2.1) (vx_c (htg _ k882) (vx_c (htg _ k883) (vx_c (htg _ k884) (vx_c (htg _ k885) (vx_c (va_Nw.use rfl ht.2.2.2.2.2.2.2.2.2.2.1) (vx_c (htg _ k875) (vx_c (htg _ k830) (vx_c (va_Nw.use rfl ht.2.2.2.2.1.1) (vx_c (htg _ k838) (vx_c (htg _ k839) (vx_c (htg _ k840) (vx_c (htg _ k842) (vx_c (htg _ k844) (vx_c (htg _ k846) (vx_c (htg _ k850) (vx_c (htg _ k849) (vx_c (htg _ k848) (vx_n)))))))))))))))))))))))))))))))))))))))))))))))))))))
theorem hgd_X7_117 : ∀ w ∈ Cond.classLink "HeroTable" 113 "java/lang/IndexOutOfBoundsException" :: Cond.initialized "java/lang/IndexOutOfBoundsException" :: vx_atS "HeroTable" 117 "java/lang/IndexOutOfBoundsException" ["java/lang/RuntimeException", "java/lang/Exception"], vx_ot w = true := by
  rw [hae_X7_117]
  decide +kernel
theorem k829 : (Jvm.Cond.classLink "HeroTable" (113 : Nat) "java/lang/IndexOutOfBoundsException") ∈ G9 := g9 829 (by decide +kernel) rfl
theorem k67 : (Jvm.Cond.initialized "java/lang/IndexOutOfBoundsException") ∈ G9 := g9 67 (by decide +kernel) rfl
theorem k912 : (Jvm.Cond.instanceMethod ({ cls := "java/lang/IllegalArgumentException", name := "<init>", desc := "(Ljava/lang/String;)V" } : Jvm.MethodName)) ∈ G9 := g9 912 (by decide +kernel) rfl
theorem k913 : (Jvm.Cond.code ({ cls := "java/lang/IllegalArgumentException", name := "<init>", desc := "(Ljava/lang/String;)V" } : Jvm.MethodName) prog_24_method_2_code (2 : Nat) (Option.none : Option Jvm.ClassFile.FieldType)) ∈ G9 := g9 913 (by decide +kernel) rfl
theorem k914 : (Jvm.Cond.methodLink "java/lang/IllegalArgumentException" (7 : Nat) ({ cls := "java/lang/RuntimeException", name := "<init>", desc := "(Ljava/lang/String;)V" } : Jvm.MethodName)) ∈ G9 := g9 914 (by decide +kernel) rfl
theorem k911 : (Jvm.Cond.methodLink "HeroTable" (82 : Nat) ({ cls := "java/lang/IllegalArgumentException", name := "<init>", desc := "(Ljava/lang/String;)V" } : Jvm.MethodName)) ∈ G9 := g9 911 (by decide +kernel) rfl
theorem k902 : (Jvm.Cond.instantiable "java/lang/IllegalArgumentException" (6 : Nat)) ∈ G9 := g9 902 (by decide +kernel) rfl
theorem k904 : (Jvm.Cond.selects "java/lang/IllegalArgumentException" ({ cls := "java/lang/Throwable", name := "fillInStackTrace", desc := "(I)Ljava/lang/Throwable;" } : Jvm.MethodName) ({ cls := "java/lang/Throwable", name := "fillInStackTrace", desc := "(I)Ljava/lang/Throwable;" } : Jvm.MethodName)) ∈ G9 := g9 904 (by decide +kernel) rfl
theorem k864 : (Jvm.Cond.selects "java/lang/IllegalArgumentException" ({ cls := "java/lang/Throwable", name := "fillInStackTrace", desc := "()Ljava/lang/Throwable;" } : Jvm.MethodName) ({ cls := "java/lang/Throwable", name := "fillInStackTrace", desc := "()Ljava/lang/Throwable;" } : Jvm.MethodName)) ∈ G9 := g9 864 (by decide +kernel) rfl
theorem k905 : (Jvm.Cond.lays "java/lang/IllegalArgumentException" "java/lang/Throwable" "cause" "Ljava/lang/Throwable;") ∈ G9 := g9 905 (by decide +kernel) rfl
theorem k906 : (Jvm.Cond.lays "java/lang/IllegalArgumentException" "java/lang/Throwable" "stackTrace" "[Ljava/lang/StackTraceElement;") ∈ G9 := g9 906 (by decide +kernel) rfl
theorem k907 : (Jvm.Cond.lays "java/lang/IllegalArgumentException" "java/lang/Throwable" "suppressedExceptions" "Ljava/util/List;") ∈ G9 := g9 907 (by decide +kernel) rfl
theorem k908 : (Jvm.Cond.lays "java/lang/IllegalArgumentException" "java/lang/Throwable" "detailMessage" "Ljava/lang/String;") ∈ G9 := g9 908 (by decide +kernel) rfl
theorem k909 : (Jvm.Cond.lays "java/lang/IllegalArgumentException" "java/lang/Throwable" "backtrace" "Ljava/lang/Object;") ∈ G9 := g9 909 (by decide +kernel) rfl
theorem hae_X7_82 : vx_atS "HeroTable" 82 "java/lang/IllegalArgumentException" ["java/lang/RuntimeException", "java/lang/Exception"] = [Jvm.Cond.initialized "java/lang/Throwable", Jvm.Cond.superclass "java/lang/Throwable" "java/lang/Object", Jvm.Cond.instanceMethod ({ cls := "java/lang/Throwable", name := "fillInStackTrace", desc := "()Ljava/lang/Throwable;" } : Jvm.MethodName), Jvm.Cond.codeSync ({ cls := "java/lang/Throwable", name := "fillInStackTrace", desc := "()Ljava/lang/Throwable;" } : Jvm.MethodName) prog_38_method_18_code (1 : Nat) (Option.some (Jvm.ClassFile.FieldType.object "java/lang/Throwable")), Jvm.Cond.instanceMethod ({ cls := "java/lang/Throwable", name := "fillInStackTrace", desc := "(I)Ljava/lang/Throwable;" } : Jvm.MethodName), Jvm.Cond.native ({ cls := "java/lang/Throwable", name := "fillInStackTrace", desc := "(I)Ljava/lang/Throwable;" } : Jvm.MethodName), Jvm.Cond.instanceMethod ({ cls := "java/lang/Throwable", name := "<init>", desc := "()V" } : Jvm.MethodName), Jvm.Cond.code ({ cls := "java/lang/Throwable", name := "<init>", desc := "()V" } : Jvm.MethodName) prog_38_method_1_code (1 : Nat) (Option.none : Option Jvm.ClassFile.FieldType), Jvm.Cond.instanceMethod ({ cls := "java/lang/Object", name := "<init>", desc := "()V" } : Jvm.MethodName), Jvm.Cond.code ({ cls := "java/lang/Object", name := "<init>", desc := "()V" } : Jvm.MethodName) object_method_1_code (1 : Nat) (Option.none : Option Jvm.ClassFile.FieldType), Jvm.Cond.methodLink "java/lang/Throwable" (1 : Nat) ({ cls := "java/lang/Object", name := "<init>", desc := "()V" } : Jvm.MethodName), Jvm.Cond.methodLink "java/lang/Throwable" (27 : Nat) ({ cls := "java/lang/Throwable", name := "fillInStackTrace", desc := "()Ljava/lang/Throwable;" } : Jvm.MethodName), Jvm.Cond.methodLink "java/lang/Throwable" (202 : Nat) ({ cls := "java/lang/Throwable", name := "fillInStackTrace", desc := "(I)Ljava/lang/Throwable;" } : Jvm.MethodName), Jvm.Cond.fieldLink "java/lang/Throwable" (7 : Nat) "java/lang/Throwable" "cause" "Ljava/lang/Throwable;", Jvm.Cond.lays "java/lang/Throwable" "java/lang/Throwable" "cause" "Ljava/lang/Throwable;", Jvm.Cond.fieldLink "java/lang/Throwable" (17 : Nat) "java/lang/Throwable" "stackTrace" "[Ljava/lang/StackTraceElement;", Jvm.Cond.lays "java/lang/Throwable" "java/lang/Throwable" "stackTrace" "[Ljava/lang/StackTraceElement;", Jvm.Cond.fieldLink "java/lang/Throwable" (24 : Nat) "java/lang/Throwable" "suppressedExceptions" "Ljava/util/List;", Jvm.Cond.lays "java/lang/Throwable" "java/lang/Throwable" "suppressedExceptions" "Ljava/util/List;", Jvm.Cond.fieldLink "java/lang/Throwable" (13 : Nat) "java/lang/Throwable" "UNASSIGNED_STACK" "[Ljava/lang/StackTraceElement;", Jvm.Cond.fieldLink "java/lang/Throwable" (20 : Nat) "java/lang/Throwable" "SUPPRESSED_SENTINEL" "Ljava/util/List;", Jvm.Cond.lays "java/lang/Throwable" "java/lang/Throwable" "detailMessage" "Ljava/lang/String;", Jvm.Cond.instanceMethod ({ cls := "java/lang/Throwable", name := "<init>", desc := "(Ljava/lang/String;)V" } : Jvm.MethodName), Jvm.Cond.code ({ cls := "java/lang/Throwable", name := "<init>", desc := "(Ljava/lang/String;)V" } : Jvm.MethodName) prog_38_method_2_code (2 : Nat) (Option.none : Option Jvm.ClassFile.FieldType), Jvm.Cond.fieldLink "java/lang/Throwable" (31 : Nat) "java/lang/Throwable" "detailMessage" "Ljava/lang/String;", Jvm.Cond.lays "java/lang/Throwable" "java/lang/Throwable" "detailMessage" "Ljava/lang/String;", Jvm.Cond.instanceMethod ({ cls := "java/lang/IllegalArgumentException", name := "<init>", desc := "(Ljava/lang/String;)V" } : Jvm.MethodName), Jvm.Cond.code ({ cls := "java/lang/IllegalArgumentException", name := "<init>", desc := "(Ljava/lang/String;)V" } : Jvm.MethodName) prog_24_method_2_code (2 : Nat) (Option.none : Option Jvm.ClassFile.FieldType), Jvm.Cond.methodLink "java/lang/IllegalArgumentException" (7 : Nat) ({ cls := "java/lang/RuntimeException", name := "<init>", desc := "(Ljava/lang/String;)V" } : Jvm.MethodName), Jvm.Cond.instanceMethod ({ cls := "java/lang/RuntimeException", name := "<init>", desc := "(Ljava/lang/String;)V" } : Jvm.MethodName), Jvm.Cond.declares ({ cls := "java/lang/RuntimeException", name := "<init>", desc := "(Ljava/lang/String;)V" } : Jvm.MethodName), Jvm.Cond.instanceMethod ({ cls := "java/lang/RuntimeException", name := "<init>", desc := "(Ljava/lang/String;)V" } : Jvm.MethodName), Jvm.Cond.code ({ cls := "java/lang/RuntimeException", name := "<init>", desc := "(Ljava/lang/String;)V" } : Jvm.MethodName) prog_32_method_2_code (2 : Nat) (Option.none : Option Jvm.ClassFile.FieldType), Jvm.Cond.methodLink "java/lang/RuntimeException" (7 : Nat) ({ cls := "java/lang/Exception", name := "<init>", desc := "(Ljava/lang/String;)V" } : Jvm.MethodName), Jvm.Cond.instanceMethod ({ cls := "java/lang/Exception", name := "<init>", desc := "(Ljava/lang/String;)V" } : Jvm.MethodName), Jvm.Cond.declares ({ cls := "java/lang/Exception", name := "<init>", desc := "(Ljava/lang/String;)V" } : Jvm.MethodName), Jvm.Cond.instanceMethod ({ cls := "java/lang/Exception", name := "<init>", desc := "(Ljava/lang/String;)V" } : Jvm.MethodName), Jvm.Cond.code ({ cls := "java/lang/Exception", name := "<init>", desc := "(Ljava/lang/String;)V" } : Jvm.MethodName) prog_23_method_2_code (2 : Nat) (Option.none : Option Jvm.ClassFile.FieldType), Jvm.Cond.methodLink "java/lang/Exception" (7 : Nat) ({ cls := "java/lang/Throwable", name := "<init>", desc := "(Ljava/lang/String;)V" } : Jvm.MethodName), Jvm.Cond.instanceMethod ({ cls := "java/lang/Throwable", name := "<init>", desc := "(Ljava/lang/String;)V" } : Jvm.MethodName), Jvm.Cond.declares ({ cls := "java/lang/Throwable", name := "<init>", desc := "(Ljava/lang/String;)V" } : Jvm.MethodName), Jvm.Cond.methodLink "HeroTable" (82 : Nat) ({ cls := "java/lang/IllegalArgumentException", name := "<init>", desc := "(Ljava/lang/String;)V" } : Jvm.MethodName), Jvm.Cond.instantiable "java/lang/IllegalArgumentException" (6 : Nat), Jvm.Cond.castable "java/lang/IllegalArgumentException" "java/lang/IllegalArgumentException", Jvm.Cond.selects "java/lang/IllegalArgumentException" ({ cls := "java/lang/Throwable", name := "fillInStackTrace", desc := "(I)Ljava/lang/Throwable;" } : Jvm.MethodName) ({ cls := "java/lang/Throwable", name := "fillInStackTrace", desc := "(I)Ljava/lang/Throwable;" } : Jvm.MethodName), Jvm.Cond.selects "java/lang/IllegalArgumentException" ({ cls := "java/lang/Throwable", name := "fillInStackTrace", desc := "()Ljava/lang/Throwable;" } : Jvm.MethodName) ({ cls := "java/lang/Throwable", name := "fillInStackTrace", desc := "()Ljava/lang/Throwable;" } : Jvm.MethodName), Jvm.Cond.lays "java/lang/IllegalArgumentException" "java/lang/Throwable" "cause" "Ljava/lang/Throwable;", Jvm.Cond.lays "java/lang/IllegalArgumentException" "java/lang/Throwable" "stackTrace" "[Ljava/lang/StackTraceElement;", Jvm.Cond.lays "java/lang/IllegalArgumentException" "java/lang/Throwable" "suppressedExceptions" "Ljava/util/List;", Jvm.Cond.lays "java/lang/IllegalArgumentException" "java/lang/Throwable" "detailMessage" "Ljava/lang/String;", Jvm.Cond.fieldLink "java/lang/Throwable" (198 : Nat) "java/lang/Throwable" "backtrace" "Ljava/lang/Object;", Jvm.Cond.lays "java/lang/Throwable" "java/lang/Throwable" "backtrace" "Ljava/lang/Object;", Jvm.Cond.lays "java/lang/IllegalArgumentException" "java/lang/Throwable" "backtrace" "Ljava/lang/Object;"] := by decide +kernel
theorem hat_X7_82 {args : Array Value} {s : State} (htg : ∀ w ∈ G9, w.before args s = true) (ht : TF s) : ∀ w ∈ vx_atS "HeroTable" 82 "java/lang/IllegalArgumentException" ["java/lang/RuntimeException", "java/lang/Exception"], w.before args s = true := by
  rw [hae_X7_82]
  exact vx_c (htg _ k64) (vx_c (htg _ k851) (vx_c (htg _ k860) (vx_c (htg _ k868) (vx_c (htg _ k871) (vx_c (htg _ k873) (vx_c (htg _ k852) (vx_c (htg _ k853) (vx_c (htg _ k98) (vx_c (htg _ k99) (vx_c (htg _ k854) (vx_c (htg _ k859) (vx_c (htg _ k869) (vx_c (htg _ k889) (vx_c (htg _ k841) (vx_c (htg _ k890) (vx_c (htg _ k843) (vx_c (htg _ k891) (vx_c (htg _ k845) (vx_c (htg _ k855) (vx_c (htg _ k857) (vx_c (htg _ k847) (vx_c (htg _ k885) (vx_c (htg _ k886) (vx_c (htg _ k888) (vx_c (htg _ k847) (vx_c (htg _ k912) (vx_c (htg _ k913) (vx_c (htg _ k914) (vx_c (htg _ k879) (vx_c (va_Nw.use rfl ht.2.2.2.2.2.2.2.2.1) (vx_c (htg _ k879) (vx_c (htg _ k880) (vx_c (htg _ k881) (vx_c (htg _ k882) (vx_c (va_Nw.use rfl ht.2.2.2.2.2.2.2.2.2.1) (vx_c (htg _ k882) (vx_c (htg _ k883) (vx_c (htg _ k884) (vx_c (htg _ k885) (vx_c (va_Nw.use rfl ht.2.2.2.2.2.2.2.2.2.2.1) (vx_c (htg _ k911) (vx_c (htg _ k902) (vx_c (va_Nw.use rfl ht.2.2.2.2.1.2.1) (vx_c (htg _ k904) (vx_c (htg _ k864) (vx_c (htg _ k905) (vx_c (htg _ k906) (vx_c (htg _ k907) (vx_c (htg _ k908) (vx_c (htg _ k850) (vx_c (htg _ k849) (vx_c (htg _ k909) (vx_n)))))))))))))))))))))))))))))))))))))))))))))))))))))
theorem hgd_X7_82 : ∀ w ∈ Cond.classLink "HeroTable" 78 "java/lang/IllegalArgumentException" :: Cond.initialized "java/lang/IllegalArgumentException" :: vx_atS "HeroTable" 82 "java/lang/IllegalArgumentException" ["java/lang/RuntimeException", "java/lang/Exception"], vx_ot w = true := by
  rw [hae_X7_82]
  decide +kernel
theorem k901 : (Jvm.Cond.classLink "HeroTable" (78 : Nat) "java/lang/IllegalArgumentException") ∈ G9 := g9 901 (by decide +kernel) rfl
theorem k68 : (Jvm.Cond.initialized "java/lang/IllegalArgumentException") ∈ G9 := g9 68 (by decide +kernel) rfl
theorem k929 : (Jvm.Cond.instanceMethod ({ cls := "java/lang/IllegalStateException", name := "<init>", desc := "(Ljava/lang/String;)V" } : Jvm.MethodName)) ∈ G9 := g9 929 (by decide +kernel) rfl
theorem k930 : (Jvm.Cond.code ({ cls := "java/lang/IllegalStateException", name := "<init>", desc := "(Ljava/lang/String;)V" } : Jvm.MethodName) prog_25_method_2_code (2 : Nat) (Option.none : Option Jvm.ClassFile.FieldType)) ∈ G9 := g9 930 (by decide +kernel) rfl
theorem k931 : (Jvm.Cond.methodLink "java/lang/IllegalStateException" (7 : Nat) ({ cls := "java/lang/RuntimeException", name := "<init>", desc := "(Ljava/lang/String;)V" } : Jvm.MethodName)) ∈ G9 := g9 931 (by decide +kernel) rfl
theorem k928 : (Jvm.Cond.methodLink "HeroTable" (275 : Nat) ({ cls := "java/lang/IllegalStateException", name := "<init>", desc := "(Ljava/lang/String;)V" } : Jvm.MethodName)) ∈ G9 := g9 928 (by decide +kernel) rfl
theorem k919 : (Jvm.Cond.instantiable "java/lang/IllegalStateException" (6 : Nat)) ∈ G9 := g9 919 (by decide +kernel) rfl
theorem k921 : (Jvm.Cond.selects "java/lang/IllegalStateException" ({ cls := "java/lang/Throwable", name := "fillInStackTrace", desc := "(I)Ljava/lang/Throwable;" } : Jvm.MethodName) ({ cls := "java/lang/Throwable", name := "fillInStackTrace", desc := "(I)Ljava/lang/Throwable;" } : Jvm.MethodName)) ∈ G9 := g9 921 (by decide +kernel) rfl
theorem k865 : (Jvm.Cond.selects "java/lang/IllegalStateException" ({ cls := "java/lang/Throwable", name := "fillInStackTrace", desc := "()Ljava/lang/Throwable;" } : Jvm.MethodName) ({ cls := "java/lang/Throwable", name := "fillInStackTrace", desc := "()Ljava/lang/Throwable;" } : Jvm.MethodName)) ∈ G9 := g9 865 (by decide +kernel) rfl
theorem k922 : (Jvm.Cond.lays "java/lang/IllegalStateException" "java/lang/Throwable" "cause" "Ljava/lang/Throwable;") ∈ G9 := g9 922 (by decide +kernel) rfl
theorem k923 : (Jvm.Cond.lays "java/lang/IllegalStateException" "java/lang/Throwable" "stackTrace" "[Ljava/lang/StackTraceElement;") ∈ G9 := g9 923 (by decide +kernel) rfl
theorem k924 : (Jvm.Cond.lays "java/lang/IllegalStateException" "java/lang/Throwable" "suppressedExceptions" "Ljava/util/List;") ∈ G9 := g9 924 (by decide +kernel) rfl
theorem k925 : (Jvm.Cond.lays "java/lang/IllegalStateException" "java/lang/Throwable" "detailMessage" "Ljava/lang/String;") ∈ G9 := g9 925 (by decide +kernel) rfl
theorem k926 : (Jvm.Cond.lays "java/lang/IllegalStateException" "java/lang/Throwable" "backtrace" "Ljava/lang/Object;") ∈ G9 := g9 926 (by decide +kernel) rfl
theorem hae_X7_275 : vx_atS "HeroTable" 275 "java/lang/IllegalStateException" ["java/lang/RuntimeException", "java/lang/Exception"] = [Jvm.Cond.initialized "java/lang/Throwable", Jvm.Cond.superclass "java/lang/Throwable" "java/lang/Object", Jvm.Cond.instanceMethod ({ cls := "java/lang/Throwable", name := "fillInStackTrace", desc := "()Ljava/lang/Throwable;" } : Jvm.MethodName), Jvm.Cond.codeSync ({ cls := "java/lang/Throwable", name := "fillInStackTrace", desc := "()Ljava/lang/Throwable;" } : Jvm.MethodName) prog_38_method_18_code (1 : Nat) (Option.some (Jvm.ClassFile.FieldType.object "java/lang/Throwable")), Jvm.Cond.instanceMethod ({ cls := "java/lang/Throwable", name := "fillInStackTrace", desc := "(I)Ljava/lang/Throwable;" } : Jvm.MethodName), Jvm.Cond.native ({ cls := "java/lang/Throwable", name := "fillInStackTrace", desc := "(I)Ljava/lang/Throwable;" } : Jvm.MethodName), Jvm.Cond.instanceMethod ({ cls := "java/lang/Throwable", name := "<init>", desc := "()V" } : Jvm.MethodName), Jvm.Cond.code ({ cls := "java/lang/Throwable", name := "<init>", desc := "()V" } : Jvm.MethodName) prog_38_method_1_code (1 : Nat) (Option.none : Option Jvm.ClassFile.FieldType), Jvm.Cond.instanceMethod ({ cls := "java/lang/Object", name := "<init>", desc := "()V" } : Jvm.MethodName), Jvm.Cond.code ({ cls := "java/lang/Object", name := "<init>", desc := "()V" } : Jvm.MethodName) object_method_1_code (1 : Nat) (Option.none : Option Jvm.ClassFile.FieldType), Jvm.Cond.methodLink "java/lang/Throwable" (1 : Nat) ({ cls := "java/lang/Object", name := "<init>", desc := "()V" } : Jvm.MethodName), Jvm.Cond.methodLink "java/lang/Throwable" (27 : Nat) ({ cls := "java/lang/Throwable", name := "fillInStackTrace", desc := "()Ljava/lang/Throwable;" } : Jvm.MethodName), Jvm.Cond.methodLink "java/lang/Throwable" (202 : Nat) ({ cls := "java/lang/Throwable", name := "fillInStackTrace", desc := "(I)Ljava/lang/Throwable;" } : Jvm.MethodName), Jvm.Cond.fieldLink "java/lang/Throwable" (7 : Nat) "java/lang/Throwable" "cause" "Ljava/lang/Throwable;", Jvm.Cond.lays "java/lang/Throwable" "java/lang/Throwable" "cause" "Ljava/lang/Throwable;", Jvm.Cond.fieldLink "java/lang/Throwable" (17 : Nat) "java/lang/Throwable" "stackTrace" "[Ljava/lang/StackTraceElement;", Jvm.Cond.lays "java/lang/Throwable" "java/lang/Throwable" "stackTrace" "[Ljava/lang/StackTraceElement;", Jvm.Cond.fieldLink "java/lang/Throwable" (24 : Nat) "java/lang/Throwable" "suppressedExceptions" "Ljava/util/List;", Jvm.Cond.lays "java/lang/Throwable" "java/lang/Throwable" "suppressedExceptions" "Ljava/util/List;", Jvm.Cond.fieldLink "java/lang/Throwable" (13 : Nat) "java/lang/Throwable" "UNASSIGNED_STACK" "[Ljava/lang/StackTraceElement;", Jvm.Cond.fieldLink "java/lang/Throwable" (20 : Nat) "java/lang/Throwable" "SUPPRESSED_SENTINEL" "Ljava/util/List;", Jvm.Cond.lays "java/lang/Throwable" "java/lang/Throwable" "detailMessage" "Ljava/lang/String;", Jvm.Cond.instanceMethod ({ cls := "java/lang/Throwable", name := "<init>", desc := "(Ljava/lang/String;)V" } : Jvm.MethodName), Jvm.Cond.code ({ cls := "java/lang/Throwable", name := "<init>", desc := "(Ljava/lang/String;)V" } : Jvm.MethodName) prog_38_method_2_code (2 : Nat) (Option.none : Option Jvm.ClassFile.FieldType), Jvm.Cond.fieldLink "java/lang/Throwable" (31 : Nat) "java/lang/Throwable" "detailMessage" "Ljava/lang/String;", Jvm.Cond.lays "java/lang/Throwable" "java/lang/Throwable" "detailMessage" "Ljava/lang/String;", Jvm.Cond.instanceMethod ({ cls := "java/lang/IllegalStateException", name := "<init>", desc := "(Ljava/lang/String;)V" } : Jvm.MethodName), Jvm.Cond.code ({ cls := "java/lang/IllegalStateException", name := "<init>", desc := "(Ljava/lang/String;)V" } : Jvm.MethodName) prog_25_method_2_code (2 : Nat) (Option.none : Option Jvm.ClassFile.FieldType), Jvm.Cond.methodLink "java/lang/IllegalStateException" (7 : Nat) ({ cls := "java/lang/RuntimeException", name := "<init>", desc := "(Ljava/lang/String;)V" } : Jvm.MethodName), Jvm.Cond.instanceMethod ({ cls := "java/lang/RuntimeException", name := "<init>", desc := "(Ljava/lang/String;)V" } : Jvm.MethodName), Jvm.Cond.declares ({ cls := "java/lang/RuntimeException", name := "<init>", desc := "(Ljava/lang/String;)V" } : Jvm.MethodName), Jvm.Cond.instanceMethod ({ cls := "java/lang/RuntimeException", name := "<init>", desc := "(Ljava/lang/String;)V" } : Jvm.MethodName), Jvm.Cond.code ({ cls := "java/lang/RuntimeException", name := "<init>", desc := "(Ljava/lang/String;)V" } : Jvm.MethodName) prog_32_method_2_code (2 : Nat) (Option.none : Option Jvm.ClassFile.FieldType), Jvm.Cond.methodLink "java/lang/RuntimeException" (7 : Nat) ({ cls := "java/lang/Exception", name := "<init>", desc := "(Ljava/lang/String;)V" } : Jvm.MethodName), Jvm.Cond.instanceMethod ({ cls := "java/lang/Exception", name := "<init>", desc := "(Ljava/lang/String;)V" } : Jvm.MethodName), Jvm.Cond.declares ({ cls := "java/lang/Exception", name := "<init>", desc := "(Ljava/lang/String;)V" } : Jvm.MethodName), Jvm.Cond.instanceMethod ({ cls := "java/lang/Exception", name := "<init>", desc := "(Ljava/lang/String;)V" } : Jvm.MethodName), Jvm.Cond.code ({ cls := "java/lang/Exception", name := "<init>", desc := "(Ljava/lang/String;)V" } : Jvm.MethodName) prog_23_method_2_code (2 : Nat) (Option.none : Option Jvm.ClassFile.FieldType), Jvm.Cond.methodLink "java/lang/Exception" (7 : Nat) ({ cls := "java/lang/Throwable", name := "<init>", desc := "(Ljava/lang/String;)V" } : Jvm.MethodName), Jvm.Cond.instanceMethod ({ cls := "java/lang/Throwable", name := "<init>", desc := "(Ljava/lang/String;)V" } : Jvm.MethodName), Jvm.Cond.declares ({ cls := "java/lang/Throwable", name := "<init>", desc := "(Ljava/lang/String;)V" } : Jvm.MethodName), Jvm.Cond.methodLink "HeroTable" (275 : Nat) ({ cls := "java/lang/IllegalStateException", name := "<init>", desc := "(Ljava/lang/String;)V" } : Jvm.MethodName), Jvm.Cond.instantiable "java/lang/IllegalStateException" (6 : Nat), Jvm.Cond.castable "java/lang/IllegalStateException" "java/lang/IllegalStateException", Jvm.Cond.selects "java/lang/IllegalStateException" ({ cls := "java/lang/Throwable", name := "fillInStackTrace", desc := "(I)Ljava/lang/Throwable;" } : Jvm.MethodName) ({ cls := "java/lang/Throwable", name := "fillInStackTrace", desc := "(I)Ljava/lang/Throwable;" } : Jvm.MethodName), Jvm.Cond.selects "java/lang/IllegalStateException" ({ cls := "java/lang/Throwable", name := "fillInStackTrace", desc := "()Ljava/lang/Throwable;" } : Jvm.MethodName) ({ cls := "java/lang/Throwable", name := "fillInStackTrace", desc := "()Ljava/lang/Throwable;" } : Jvm.MethodName), Jvm.Cond.lays "java/lang/IllegalStateException" "java/lang/Throwable" "cause" "Ljava/lang/Throwable;", Jvm.Cond.lays "java/lang/IllegalStateException" "java/lang/Throwable" "stackTrace" "[Ljava/lang/StackTraceElement;", Jvm.Cond.lays "java/lang/IllegalStateException" "java/lang/Throwable" "suppressedExceptions" "Ljava/util/List;", Jvm.Cond.lays "java/lang/IllegalStateException" "java/lang/Throwable" "detailMessage" "Ljava/lang/String;", Jvm.Cond.fieldLink "java/lang/Throwable" (198 : Nat) "java/lang/Throwable" "backtrace" "Ljava/lang/Object;", Jvm.Cond.lays "java/lang/Throwable" "java/lang/Throwable" "backtrace" "Ljava/lang/Object;", Jvm.Cond.lays "java/lang/IllegalStateException" "java/lang/Throwable" "backtrace" "Ljava/lang/Object;"] := by decide +kernel
theorem hat_X7_275 {args : Array Value} {s : State} (htg : ∀ w ∈ G9, w.before args s = true) (ht : TF s) : ∀ w ∈ vx_atS "HeroTable" 275 "java/lang/IllegalStateException" ["java/lang/RuntimeException", "java/lang/Exception"], w.before args s = true := by
  rw [hae_X7_275]
  exact vx_c (htg _ k64) (vx_c (htg _ k851) (vx_c (htg _ k860) (vx_c (htg _ k868) (vx_c (htg _ k871) (vx_c (htg _ k873) (vx_c (htg _ k852) (vx_c (htg _ k853) (vx_c (htg _ k98) (vx_c (htg _ k99) (vx_c (htg _ k854) (vx_c (htg _ k859) (vx_c (htg _ k869) (vx_c (htg _ k889) (vx_c (htg _ k841) (vx_c (htg _ k890) (vx_c (htg _ k843) (vx_c (htg _ k891) (vx_c (htg _ k845) (vx_c (htg _ k855) (vx_c (htg _ k857) (vx_c (htg _ k847) (vx_c (htg _ k885) (vx_c (htg _ k886) (vx_c (htg _ k888) (vx_c (htg _ k847) (vx_c (htg _ k929) (vx_c (htg _ k930) (vx_c (htg _ k931) (vx_c (htg _ k879) (vx_c (va_Nw.use rfl ht.2.2.2.2.2.2.2.2.1) (vx_c (htg _ k879) (vx_c (htg _ k880) (vx_c (htg _ k881) (vx_c (htg _ k882) (vx_c (va_Nw.use rfl ht.2.2.2.2.2.2.2.2.2.1) (vx_c (htg _ k882) (vx_c (htg _ k883) (vx_c (htg _ k884) (vx_c (htg _ k885) (vx_c (va_Nw.use rfl ht.2.2.2.2.2.2.2.2.2.2.1) (vx_c (htg _ k928) (vx_c (htg _ k919) (vx_c (va_Nw.use rfl ht.2.2.2.2.1.2.2.1) (vx_c (htg _ k921) (vx_c (htg _ k865) (vx_c (htg _ k922) (vx_c (htg _ k923) (vx_c (htg _ k924) (vx_c (htg _ k925) (vx_c (htg _ k850) (vx_c (htg _ k849) (vx_c (htg _ k926) (vx_n)))))))))))))))))))))))))))))))))))))))))))))))))))))
theorem hgd_X7_275 : ∀ w ∈ Cond.classLink "HeroTable" 271 "java/lang/IllegalStateException" :: Cond.initialized "java/lang/IllegalStateException" :: vx_atS "HeroTable" 275 "java/lang/IllegalStateException" ["java/lang/RuntimeException", "java/lang/Exception"], vx_ot w = true := by
  rw [hae_X7_275]
  decide +kernel
theorem k918 : (Jvm.Cond.classLink "HeroTable" (271 : Nat) "java/lang/IllegalStateException") ∈ G9 := g9 918 (by decide +kernel) rfl
theorem k69 : (Jvm.Cond.initialized "java/lang/IllegalStateException") ∈ G9 := g9 69 (by decide +kernel) rfl
theorem k963 : (Jvm.Cond.instanceMethod ({ cls := "java/util/NoSuchElementException", name := "<init>", desc := "(Ljava/lang/String;)V" } : Jvm.MethodName)) ∈ G9 := g9 963 (by decide +kernel) rfl
theorem k964 : (Jvm.Cond.code ({ cls := "java/util/NoSuchElementException", name := "<init>", desc := "(Ljava/lang/String;)V" } : Jvm.MethodName) prog_52_method_4_code (2 : Nat) (Option.none : Option Jvm.ClassFile.FieldType)) ∈ G9 := g9 964 (by decide +kernel) rfl
theorem k965 : (Jvm.Cond.methodLink "java/util/NoSuchElementException" (13 : Nat) ({ cls := "java/lang/RuntimeException", name := "<init>", desc := "(Ljava/lang/String;)V" } : Jvm.MethodName)) ∈ G9 := g9 965 (by decide +kernel) rfl
theorem k962 : (Jvm.Cond.methodLink "HeroTable" (171 : Nat) ({ cls := "java/util/NoSuchElementException", name := "<init>", desc := "(Ljava/lang/String;)V" } : Jvm.MethodName)) ∈ G9 := g9 962 (by decide +kernel) rfl
theorem k953 : (Jvm.Cond.instantiable "java/util/NoSuchElementException" (6 : Nat)) ∈ G9 := g9 953 (by decide +kernel) rfl
theorem k955 : (Jvm.Cond.selects "java/util/NoSuchElementException" ({ cls := "java/lang/Throwable", name := "fillInStackTrace", desc := "(I)Ljava/lang/Throwable;" } : Jvm.MethodName) ({ cls := "java/lang/Throwable", name := "fillInStackTrace", desc := "(I)Ljava/lang/Throwable;" } : Jvm.MethodName)) ∈ G9 := g9 955 (by decide +kernel) rfl
theorem k867 : (Jvm.Cond.selects "java/util/NoSuchElementException" ({ cls := "java/lang/Throwable", name := "fillInStackTrace", desc := "()Ljava/lang/Throwable;" } : Jvm.MethodName) ({ cls := "java/lang/Throwable", name := "fillInStackTrace", desc := "()Ljava/lang/Throwable;" } : Jvm.MethodName)) ∈ G9 := g9 867 (by decide +kernel) rfl
theorem k956 : (Jvm.Cond.lays "java/util/NoSuchElementException" "java/lang/Throwable" "cause" "Ljava/lang/Throwable;") ∈ G9 := g9 956 (by decide +kernel) rfl
theorem k957 : (Jvm.Cond.lays "java/util/NoSuchElementException" "java/lang/Throwable" "stackTrace" "[Ljava/lang/StackTraceElement;") ∈ G9 := g9 957 (by decide +kernel) rfl
theorem k958 : (Jvm.Cond.lays "java/util/NoSuchElementException" "java/lang/Throwable" "suppressedExceptions" "Ljava/util/List;") ∈ G9 := g9 958 (by decide +kernel) rfl
theorem k959 : (Jvm.Cond.lays "java/util/NoSuchElementException" "java/lang/Throwable" "detailMessage" "Ljava/lang/String;") ∈ G9 := g9 959 (by decide +kernel) rfl
theorem k960 : (Jvm.Cond.lays "java/util/NoSuchElementException" "java/lang/Throwable" "backtrace" "Ljava/lang/Object;") ∈ G9 := g9 960 (by decide +kernel) rfl
theorem hae_X7_171 : oaNx "HeroTable" 171 = [Jvm.Cond.initialized "java/lang/Throwable", Jvm.Cond.superclass "java/lang/Throwable" "java/lang/Object", Jvm.Cond.instanceMethod ({ cls := "java/lang/Throwable", name := "fillInStackTrace", desc := "()Ljava/lang/Throwable;" } : Jvm.MethodName), Jvm.Cond.codeSync ({ cls := "java/lang/Throwable", name := "fillInStackTrace", desc := "()Ljava/lang/Throwable;" } : Jvm.MethodName) prog_38_method_18_code (1 : Nat) (Option.some (Jvm.ClassFile.FieldType.object "java/lang/Throwable")), Jvm.Cond.instanceMethod ({ cls := "java/lang/Throwable", name := "fillInStackTrace", desc := "(I)Ljava/lang/Throwable;" } : Jvm.MethodName), Jvm.Cond.native ({ cls := "java/lang/Throwable", name := "fillInStackTrace", desc := "(I)Ljava/lang/Throwable;" } : Jvm.MethodName), Jvm.Cond.instanceMethod ({ cls := "java/lang/Throwable", name := "<init>", desc := "()V" } : Jvm.MethodName), Jvm.Cond.code ({ cls := "java/lang/Throwable", name := "<init>", desc := "()V" } : Jvm.MethodName) prog_38_method_1_code (1 : Nat) (Option.none : Option Jvm.ClassFile.FieldType), Jvm.Cond.instanceMethod ({ cls := "java/lang/Object", name := "<init>", desc := "()V" } : Jvm.MethodName), Jvm.Cond.code ({ cls := "java/lang/Object", name := "<init>", desc := "()V" } : Jvm.MethodName) object_method_1_code (1 : Nat) (Option.none : Option Jvm.ClassFile.FieldType), Jvm.Cond.methodLink "java/lang/Throwable" (1 : Nat) ({ cls := "java/lang/Object", name := "<init>", desc := "()V" } : Jvm.MethodName), Jvm.Cond.methodLink "java/lang/Throwable" (27 : Nat) ({ cls := "java/lang/Throwable", name := "fillInStackTrace", desc := "()Ljava/lang/Throwable;" } : Jvm.MethodName), Jvm.Cond.methodLink "java/lang/Throwable" (202 : Nat) ({ cls := "java/lang/Throwable", name := "fillInStackTrace", desc := "(I)Ljava/lang/Throwable;" } : Jvm.MethodName), Jvm.Cond.fieldLink "java/lang/Throwable" (7 : Nat) "java/lang/Throwable" "cause" "Ljava/lang/Throwable;", Jvm.Cond.lays "java/lang/Throwable" "java/lang/Throwable" "cause" "Ljava/lang/Throwable;", Jvm.Cond.fieldLink "java/lang/Throwable" (17 : Nat) "java/lang/Throwable" "stackTrace" "[Ljava/lang/StackTraceElement;", Jvm.Cond.lays "java/lang/Throwable" "java/lang/Throwable" "stackTrace" "[Ljava/lang/StackTraceElement;", Jvm.Cond.fieldLink "java/lang/Throwable" (24 : Nat) "java/lang/Throwable" "suppressedExceptions" "Ljava/util/List;", Jvm.Cond.lays "java/lang/Throwable" "java/lang/Throwable" "suppressedExceptions" "Ljava/util/List;", Jvm.Cond.fieldLink "java/lang/Throwable" (13 : Nat) "java/lang/Throwable" "UNASSIGNED_STACK" "[Ljava/lang/StackTraceElement;", Jvm.Cond.fieldLink "java/lang/Throwable" (20 : Nat) "java/lang/Throwable" "SUPPRESSED_SENTINEL" "Ljava/util/List;", Jvm.Cond.lays "java/lang/Throwable" "java/lang/Throwable" "detailMessage" "Ljava/lang/String;", Jvm.Cond.instanceMethod ({ cls := "java/lang/Throwable", name := "<init>", desc := "(Ljava/lang/String;)V" } : Jvm.MethodName), Jvm.Cond.code ({ cls := "java/lang/Throwable", name := "<init>", desc := "(Ljava/lang/String;)V" } : Jvm.MethodName) prog_38_method_2_code (2 : Nat) (Option.none : Option Jvm.ClassFile.FieldType), Jvm.Cond.fieldLink "java/lang/Throwable" (31 : Nat) "java/lang/Throwable" "detailMessage" "Ljava/lang/String;", Jvm.Cond.lays "java/lang/Throwable" "java/lang/Throwable" "detailMessage" "Ljava/lang/String;", Jvm.Cond.instanceMethod ({ cls := "java/util/NoSuchElementException", name := "<init>", desc := "(Ljava/lang/String;)V" } : Jvm.MethodName), Jvm.Cond.code ({ cls := "java/util/NoSuchElementException", name := "<init>", desc := "(Ljava/lang/String;)V" } : Jvm.MethodName) prog_52_method_4_code (2 : Nat) (Option.none : Option Jvm.ClassFile.FieldType), Jvm.Cond.methodLink "java/util/NoSuchElementException" (13 : Nat) ({ cls := "java/lang/RuntimeException", name := "<init>", desc := "(Ljava/lang/String;)V" } : Jvm.MethodName), Jvm.Cond.instanceMethod ({ cls := "java/lang/RuntimeException", name := "<init>", desc := "(Ljava/lang/String;)V" } : Jvm.MethodName), Jvm.Cond.declares ({ cls := "java/lang/RuntimeException", name := "<init>", desc := "(Ljava/lang/String;)V" } : Jvm.MethodName), Jvm.Cond.instanceMethod ({ cls := "java/lang/RuntimeException", name := "<init>", desc := "(Ljava/lang/String;)V" } : Jvm.MethodName), Jvm.Cond.code ({ cls := "java/lang/RuntimeException", name := "<init>", desc := "(Ljava/lang/String;)V" } : Jvm.MethodName) prog_32_method_2_code (2 : Nat) (Option.none : Option Jvm.ClassFile.FieldType), Jvm.Cond.methodLink "java/lang/RuntimeException" (7 : Nat) ({ cls := "java/lang/Exception", name := "<init>", desc := "(Ljava/lang/String;)V" } : Jvm.MethodName), Jvm.Cond.instanceMethod ({ cls := "java/lang/Exception", name := "<init>", desc := "(Ljava/lang/String;)V" } : Jvm.MethodName), Jvm.Cond.declares ({ cls := "java/lang/Exception", name := "<init>", desc := "(Ljava/lang/String;)V" } : Jvm.MethodName), Jvm.Cond.instanceMethod ({ cls := "java/lang/Exception", name := "<init>", desc := "(Ljava/lang/String;)V" } : Jvm.MethodName), Jvm.Cond.code ({ cls := "java/lang/Exception", name := "<init>", desc := "(Ljava/lang/String;)V" } : Jvm.MethodName) prog_23_method_2_code (2 : Nat) (Option.none : Option Jvm.ClassFile.FieldType), Jvm.Cond.methodLink "java/lang/Exception" (7 : Nat) ({ cls := "java/lang/Throwable", name := "<init>", desc := "(Ljava/lang/String;)V" } : Jvm.MethodName), Jvm.Cond.instanceMethod ({ cls := "java/lang/Throwable", name := "<init>", desc := "(Ljava/lang/String;)V" } : Jvm.MethodName), Jvm.Cond.declares ({ cls := "java/lang/Throwable", name := "<init>", desc := "(Ljava/lang/String;)V" } : Jvm.MethodName), Jvm.Cond.methodLink "HeroTable" (171 : Nat) ({ cls := "java/util/NoSuchElementException", name := "<init>", desc := "(Ljava/lang/String;)V" } : Jvm.MethodName), Jvm.Cond.instantiable "java/util/NoSuchElementException" (6 : Nat), Jvm.Cond.castable "java/util/NoSuchElementException" "java/util/NoSuchElementException", Jvm.Cond.selects "java/util/NoSuchElementException" ({ cls := "java/lang/Throwable", name := "fillInStackTrace", desc := "(I)Ljava/lang/Throwable;" } : Jvm.MethodName) ({ cls := "java/lang/Throwable", name := "fillInStackTrace", desc := "(I)Ljava/lang/Throwable;" } : Jvm.MethodName), Jvm.Cond.selects "java/util/NoSuchElementException" ({ cls := "java/lang/Throwable", name := "fillInStackTrace", desc := "()Ljava/lang/Throwable;" } : Jvm.MethodName) ({ cls := "java/lang/Throwable", name := "fillInStackTrace", desc := "()Ljava/lang/Throwable;" } : Jvm.MethodName), Jvm.Cond.lays "java/util/NoSuchElementException" "java/lang/Throwable" "cause" "Ljava/lang/Throwable;", Jvm.Cond.lays "java/util/NoSuchElementException" "java/lang/Throwable" "stackTrace" "[Ljava/lang/StackTraceElement;", Jvm.Cond.lays "java/util/NoSuchElementException" "java/lang/Throwable" "suppressedExceptions" "Ljava/util/List;", Jvm.Cond.lays "java/util/NoSuchElementException" "java/lang/Throwable" "detailMessage" "Ljava/lang/String;", Jvm.Cond.fieldLink "java/lang/Throwable" (198 : Nat) "java/lang/Throwable" "backtrace" "Ljava/lang/Object;", Jvm.Cond.lays "java/lang/Throwable" "java/lang/Throwable" "backtrace" "Ljava/lang/Object;", Jvm.Cond.lays "java/util/NoSuchElementException" "java/lang/Throwable" "backtrace" "Ljava/lang/Object;"] := by decide +kernel
theorem hat_X7_171 {args : Array Value} {s : State} (htg : ∀ w ∈ G9, w.before args s = true) (ht : TF s) : ∀ w ∈ oaNx "HeroTable" 171, w.before args s = true := by
  rw [hae_X7_171]
  exact vx_c (htg _ k64) (vx_c (htg _ k851) (vx_c (htg _ k860) (vx_c (htg _ k868) (vx_c (htg _ k871) (vx_c (htg _ k873) (vx_c (htg _ k852) (vx_c (htg _ k853) (vx_c (htg _ k98) (vx_c (htg _ k99) (vx_c (htg _ k854) (vx_c (htg _ k859) (vx_c (htg _ k869) (vx_c (htg _ k889) (vx_c (htg _ k841) (vx_c (htg _ k890) (vx_c (htg _ k843) (vx_c (htg _ k891) (vx_c (htg _ k845) (vx_c (htg _ k855) (vx_c (htg _ k857) (vx_c (htg _ k847) (vx_c (htg _ k885) (vx_c (htg _ k886) (vx_c (htg _ k888) (vx_c (htg _ k847) (vx_c (htg _ k963) (vx_c (htg _ k964) (vx_c (htg _ k965) (vx_c (htg _ k879) (vx_c (va_Nw.use rfl ht.2.2.2.2.2.2.2.2.1) (vx_c (htg _ k879) (vx_c (htg _ k880) (vx_c (htg _ k881) (vx_c (htg _ k882) (vx_c (va_Nw.use rfl ht.2.2.2.2.2.2.2.2.2.1) (vx_c (htg _ k882) (vx_c (htg _ k883) (vx_c (htg _ k884) (vx_c (htg _ k885) (vx_c (va_Nw.use rfl ht.2.2.2.2.2.2.2.2.2.2.1) (vx_c (htg _ k962) (vx_c (htg _ k953) (vx_c (va_Nw.use rfl ht.2.2.2.2.1.2.2.2.1) (vx_c (htg _ k955) (vx_c (htg _ k867) (vx_c (htg _ k956) (vx_c (htg _ k957) (vx_c (htg _ k958) (vx_c (htg _ k959) (vx_c (htg _ k850) (vx_c (htg _ k849) (vx_c (htg _ k960) (vx_n)))))))))))))))))))))))))))))))))))))))))))))))))))))
theorem hgd_X7_171 : ∀ w ∈ Cond.classLink "HeroTable" 167 "java/util/NoSuchElementException" :: Cond.initialized "java/util/NoSuchElementException" :: oaNx "HeroTable" 171, vx_ot w = true := by
  rw [hae_X7_171]
  decide +kernel
theorem k952 : (Jvm.Cond.classLink "HeroTable" (167 : Nat) "java/util/NoSuchElementException") ∈ G9 := g9 952 (by decide +kernel) rfl
theorem k71 : (Jvm.Cond.initialized "java/util/NoSuchElementException") ∈ G9 := g9 71 (by decide +kernel) rfl
theorem k313 : (Jvm.Cond.laysFinal "HeroTable" "HeroTable" "table" "LHeroTable$Table;") ∈ G9 := g9 313 (by decide +kernel) rfl
theorem k315 : (Jvm.Cond.laysFinal "HeroTable" "HeroTable" "replayed" "LHeroTable$Table;") ∈ G9 := g9 315 (by decide +kernel) rfl
theorem k317 : (Jvm.Cond.laysFinal "HeroTable" "HeroTable" "transcript" "LHeroTable$Transcript;") ∈ G9 := g9 317 (by decide +kernel) rfl
theorem inG_X7 : ∀ w ∈ u_ws RX7 TX7 3, w ∈ G9 := by
  intro w h
  have h : w ∈ [u_lay RX7 TX7 0, u_lay RX7 TX7 1, u_lay RX7 TX7 2] := h
  simp only [List.mem_cons, List.not_mem_nil, or_false] at h
  rcases h with rfl | rfl | rfl
  · exact k313
  · exact k315
  · exact k317
theorem k310 : (Jvm.Cond.fieldLink "HeroTable" (10 : Nat) "HeroTable" "table" "LHeroTable$Table;") ∈ G9 := g9 310 (by decide +kernel) rfl
theorem k1037 : (Jvm.Cond.methodLink "HeroTable" (224 : Nat) ({ cls := "HeroTable$Table", name := "isHero", desc := "(I)Z" } : Jvm.MethodName)) ∈ G9 := g9 1037 (by decide +kernel) rfl
theorem k392 : (Jvm.Cond.code ({ cls := "HeroTable$Table", name := "enrol", desc := "(IIIII)I" } : Jvm.MethodName) prog_7_method_4_code (6 : Nat) (Option.some Jvm.ClassFile.FieldType.int)) ∈ G9 := g9 392 (by decide +kernel) rfl
theorem k824 : (Jvm.Cond.methodLink "HeroTable" (26 : Nat) ({ cls := "HeroTable$Table", name := "enrol", desc := "(IIIII)I" } : Jvm.MethodName)) ∈ G9 := g9 824 (by decide +kernel) rfl
theorem ok_X5_enrol : okN yX5_enrol 5 := by decide +kernel
theorem k390 : (Jvm.Cond.instanceMethod ({ cls := "HeroTable$Table", name := "enrol", desc := "(IIIII)I" } : Jvm.MethodName)) ∈ G9 := g9 390 (by decide +kernel) rfl
theorem k391 : (Jvm.Cond.selects "HeroTable$Table" ({ cls := "HeroTable$Table", name := "enrol", desc := "(IIIII)I" } : Jvm.MethodName) ({ cls := "HeroTable$Table", name := "enrol", desc := "(IIIII)I" } : Jvm.MethodName)) ∈ G9 := g9 391 (by decide +kernel) rfl
theorem k827 : (Jvm.Cond.code ({ cls := "HeroTable", name := "answered", desc := "(I)I" } : Jvm.MethodName) prog_1_method_42_code (1 : Nat) (Option.some Jvm.ClassFile.FieldType.int)) ∈ G9 := g9 827 (by decide +kernel) rfl
theorem k50 : (Jvm.Cond.initialized "HeroTable") ∈ G9 := g9 50 (by decide +kernel) rfl
theorem k825 : (Jvm.Cond.methodLink "HeroTable" (30 : Nat) ({ cls := "HeroTable", name := "answered", desc := "(I)I" } : Jvm.MethodName)) ∈ G9 := g9 825 (by decide +kernel) rfl
theorem ok_X7_answered : okN yX7_answered 1 := by decide +kernel
theorem k826 : (Jvm.Cond.static ({ cls := "HeroTable", name := "answered", desc := "(I)I" } : Jvm.MethodName)) ∈ G9 := g9 826 (by decide +kernel) rfl
theorem k312 : (Jvm.Cond.fieldLink "HeroTable" (22 : Nat) "HeroTable" "transcript" "LHeroTable$Transcript;") ∈ G9 := g9 312 (by decide +kernel) rfl
theorem k971 : (Jvm.Cond.code ({ cls := "HeroTable$Transcript", name := "keep", desc := "(IIIIIII)V" } : Jvm.MethodName) prog_8_method_2_code (9 : Nat) (Option.none : Option Jvm.ClassFile.FieldType)) ∈ G9 := g9 971 (by decide +kernel) rfl
theorem k56 : (Jvm.Cond.initialized "HeroTable$Transcript") ∈ G9 := g9 56 (by decide +kernel) rfl
theorem k968 : (Jvm.Cond.methodLink "HeroTable" (34 : Nat) ({ cls := "HeroTable$Transcript", name := "keep", desc := "(IIIIIII)V" } : Jvm.MethodName)) ∈ G9 := g9 968 (by decide +kernel) rfl
theorem ok_X6_keep : okN yX6_keep 7 := by decide +kernel
theorem k969 : (Jvm.Cond.instanceMethod ({ cls := "HeroTable$Transcript", name := "keep", desc := "(IIIIIII)V" } : Jvm.MethodName)) ∈ G9 := g9 969 (by decide +kernel) rfl
theorem k970 : (Jvm.Cond.selects "HeroTable$Transcript" ({ cls := "HeroTable$Transcript", name := "keep", desc := "(IIIIIII)V" } : Jvm.MethodName) ({ cls := "HeroTable$Transcript", name := "keep", desc := "(IIIIIII)V" } : Jvm.MethodName)) ∈ G9 := g9 970 (by decide +kernel) rfl
theorem k423 : (Jvm.Cond.code ({ cls := "HeroTable$Table", name := "layGround", desc := "(IIC)I" } : Jvm.MethodName) prog_7_method_6_code (5 : Nat) (Option.some Jvm.ClassFile.FieldType.int)) ∈ G9 := g9 423 (by decide +kernel) rfl
theorem k980 : (Jvm.Cond.methodLink "HeroTable" (38 : Nat) ({ cls := "HeroTable$Table", name := "layGround", desc := "(IIC)I" } : Jvm.MethodName)) ∈ G9 := g9 980 (by decide +kernel) rfl
theorem ok_X5_layGround : okN yX5_layGround 3 := by decide +kernel
theorem k421 : (Jvm.Cond.instanceMethod ({ cls := "HeroTable$Table", name := "layGround", desc := "(IIC)I" } : Jvm.MethodName)) ∈ G9 := g9 421 (by decide +kernel) rfl
theorem k422 : (Jvm.Cond.selects "HeroTable$Table" ({ cls := "HeroTable$Table", name := "layGround", desc := "(IIC)I" } : Jvm.MethodName) ({ cls := "HeroTable$Table", name := "layGround", desc := "(IIC)I" } : Jvm.MethodName)) ∈ G9 := g9 422 (by decide +kernel) rfl
theorem k518 : (Jvm.Cond.code ({ cls := "HeroTable$Table", name := "changeBase", desc := "(ICI)I" } : Jvm.MethodName) prog_7_method_7_code (7 : Nat) (Option.some Jvm.ClassFile.FieldType.int)) ∈ G9 := g9 518 (by decide +kernel) rfl
theorem k1009 : (Jvm.Cond.methodLink "HeroTable" (42 : Nat) ({ cls := "HeroTable$Table", name := "changeBase", desc := "(ICI)I" } : Jvm.MethodName)) ∈ G9 := g9 1009 (by decide +kernel) rfl
theorem ok_X5_changeBase : okN yX5_changeBase 3 := by decide +kernel
theorem k516 : (Jvm.Cond.instanceMethod ({ cls := "HeroTable$Table", name := "changeBase", desc := "(ICI)I" } : Jvm.MethodName)) ∈ G9 := g9 516 (by decide +kernel) rfl
theorem k517 : (Jvm.Cond.selects "HeroTable$Table" ({ cls := "HeroTable$Table", name := "changeBase", desc := "(ICI)I" } : Jvm.MethodName) ({ cls := "HeroTable$Table", name := "changeBase", desc := "(ICI)I" } : Jvm.MethodName)) ∈ G9 := g9 517 (by decide +kernel) rfl
theorem k528 : (Jvm.Cond.code ({ cls := "HeroTable$Table", name := "changeSpare", desc := "(II)I" } : Jvm.MethodName) prog_7_method_8_code (4 : Nat) (Option.some Jvm.ClassFile.FieldType.int)) ∈ G9 := g9 528 (by decide +kernel) rfl
theorem k1017 : (Jvm.Cond.methodLink "HeroTable" (46 : Nat) ({ cls := "HeroTable$Table", name := "changeSpare", desc := "(II)I" } : Jvm.MethodName)) ∈ G9 := g9 1017 (by decide +kernel) rfl
theorem ok_X5_changeSpare : okN yX5_changeSpare 2 := by decide +kernel
theorem k526 : (Jvm.Cond.instanceMethod ({ cls := "HeroTable$Table", name := "changeSpare", desc := "(II)I" } : Jvm.MethodName)) ∈ G9 := g9 526 (by decide +kernel) rfl
theorem k527 : (Jvm.Cond.selects "HeroTable$Table" ({ cls := "HeroTable$Table", name := "changeSpare", desc := "(II)I" } : Jvm.MethodName) ({ cls := "HeroTable$Table", name := "changeSpare", desc := "(II)I" } : Jvm.MethodName)) ∈ G9 := g9 527 (by decide +kernel) rfl
theorem k532 : (Jvm.Cond.code ({ cls := "HeroTable$Table", name := "mend", desc := "(II)I" } : Jvm.MethodName) prog_7_method_9_code (4 : Nat) (Option.some Jvm.ClassFile.FieldType.int)) ∈ G9 := g9 532 (by decide +kernel) rfl
theorem k1025 : (Jvm.Cond.methodLink "HeroTable" (50 : Nat) ({ cls := "HeroTable$Table", name := "mend", desc := "(II)I" } : Jvm.MethodName)) ∈ G9 := g9 1025 (by decide +kernel) rfl
theorem ok_X5_mend : okN yX5_mend 2 := by decide +kernel
theorem k530 : (Jvm.Cond.instanceMethod ({ cls := "HeroTable$Table", name := "mend", desc := "(II)I" } : Jvm.MethodName)) ∈ G9 := g9 530 (by decide +kernel) rfl
theorem k531 : (Jvm.Cond.selects "HeroTable$Table" ({ cls := "HeroTable$Table", name := "mend", desc := "(II)I" } : Jvm.MethodName) ({ cls := "HeroTable$Table", name := "mend", desc := "(II)I" } : Jvm.MethodName)) ∈ G9 := g9 531 (by decide +kernel) rfl
theorem k1036 : (Jvm.Cond.code ({ cls := "HeroTable", name := "knownHero", desc := "(I)LHeroTable$Hero;" } : Jvm.MethodName) prog_1_method_43_code (2 : Nat) (Option.some (Jvm.ClassFile.FieldType.object "HeroTable$Hero"))) ∈ G9 := g9 1036 (by decide +kernel) rfl
theorem k1033 : (Jvm.Cond.methodLink "HeroTable" (53 : Nat) ({ cls := "HeroTable", name := "knownHero", desc := "(I)LHeroTable$Hero;" } : Jvm.MethodName)) ∈ G9 := g9 1033 (by decide +kernel) rfl
theorem ok_X7_knownHero : okN yX7_knownHero 1 := by decide +kernel
theorem k1035 : (Jvm.Cond.instanceMethod ({ cls := "HeroTable", name := "knownHero", desc := "(I)LHeroTable$Hero;" } : Jvm.MethodName)) ∈ G9 := g9 1035 (by decide +kernel) rfl
theorem k16 : (Jvm.Cond.selects "HeroTable" ({ cls := "HeroTable", name := "knownHero", desc := "(I)LHeroTable$Hero;" } : Jvm.MethodName) ({ cls := "HeroTable", name := "knownHero", desc := "(I)LHeroTable$Hero;" } : Jvm.MethodName)) ∈ G9 := g9 16 (by decide +kernel) rfl
theorem k545 : (Jvm.Cond.code ({ cls := "HeroTable$Table", name := "tellBonus", desc := "(ICCIII)I" } : Jvm.MethodName) prog_7_method_12_code (10 : Nat) (Option.some Jvm.ClassFile.FieldType.int)) ∈ G9 := g9 545 (by decide +kernel) rfl
theorem k1070 : (Jvm.Cond.methodLink "HeroTable" (89 : Nat) ({ cls := "HeroTable$Table", name := "tellBonus", desc := "(ICCIII)I" } : Jvm.MethodName)) ∈ G9 := g9 1070 (by decide +kernel) rfl
theorem ok_X5_tellBonus : okN yX5_tellBonus 6 := by decide +kernel
theorem k543 : (Jvm.Cond.instanceMethod ({ cls := "HeroTable$Table", name := "tellBonus", desc := "(ICCIII)I" } : Jvm.MethodName)) ∈ G9 := g9 543 (by decide +kernel) rfl
theorem k544 : (Jvm.Cond.selects "HeroTable$Table" ({ cls := "HeroTable$Table", name := "tellBonus", desc := "(ICCIII)I" } : Jvm.MethodName) ({ cls := "HeroTable$Table", name := "tellBonus", desc := "(ICCIII)I" } : Jvm.MethodName)) ∈ G9 := g9 544 (by decide +kernel) rfl
theorem k596 : (Jvm.Cond.code ({ cls := "HeroTable$Table", name := "tellCondition", desc := "(ICIII)I" } : Jvm.MethodName) prog_7_method_13_code (7 : Nat) (Option.some Jvm.ClassFile.FieldType.int)) ∈ G9 := g9 596 (by decide +kernel) rfl
theorem k1078 : (Jvm.Cond.methodLink "HeroTable" (93 : Nat) ({ cls := "HeroTable$Table", name := "tellCondition", desc := "(ICIII)I" } : Jvm.MethodName)) ∈ G9 := g9 1078 (by decide +kernel) rfl
theorem ok_X5_tellCondition : okN yX5_tellCondition 5 := by decide +kernel
theorem k594 : (Jvm.Cond.instanceMethod ({ cls := "HeroTable$Table", name := "tellCondition", desc := "(ICIII)I" } : Jvm.MethodName)) ∈ G9 := g9 594 (by decide +kernel) rfl
theorem k595 : (Jvm.Cond.selects "HeroTable$Table" ({ cls := "HeroTable$Table", name := "tellCondition", desc := "(ICIII)I" } : Jvm.MethodName) ({ cls := "HeroTable$Table", name := "tellCondition", desc := "(ICIII)I" } : Jvm.MethodName)) ∈ G9 := g9 595 (by decide +kernel) rfl
theorem k690 : (Jvm.Cond.code ({ cls := "HeroTable$Table", name := "assail", desc := "(I)I" } : Jvm.MethodName) prog_7_method_26_code (3 : Nat) (Option.some Jvm.ClassFile.FieldType.int)) ∈ G9 := g9 690 (by decide +kernel) rfl
theorem k1200 : (Jvm.Cond.methodLink "HeroTable" (189 : Nat) ({ cls := "HeroTable$Table", name := "assail", desc := "(I)I" } : Jvm.MethodName)) ∈ G9 := g9 1200 (by decide +kernel) rfl
theorem ok_X5_assail : okN yX5_assail 1 := by decide +kernel
theorem k688 : (Jvm.Cond.instanceMethod ({ cls := "HeroTable$Table", name := "assail", desc := "(I)I" } : Jvm.MethodName)) ∈ G9 := g9 688 (by decide +kernel) rfl
theorem k689 : (Jvm.Cond.selects "HeroTable$Table" ({ cls := "HeroTable$Table", name := "assail", desc := "(I)I" } : Jvm.MethodName) ({ cls := "HeroTable$Table", name := "assail", desc := "(I)I" } : Jvm.MethodName)) ∈ G9 := g9 689 (by decide +kernel) rfl
theorem k614 : (Jvm.Cond.code ({ cls := "HeroTable$Table", name := "changeImmunity", desc := "(ICI)I" } : Jvm.MethodName) prog_7_method_15_code (6 : Nat) (Option.some Jvm.ClassFile.FieldType.int)) ∈ G9 := g9 614 (by decide +kernel) rfl
theorem k1094 : (Jvm.Cond.methodLink "HeroTable" (100 : Nat) ({ cls := "HeroTable$Table", name := "changeImmunity", desc := "(ICI)I" } : Jvm.MethodName)) ∈ G9 := g9 1094 (by decide +kernel) rfl
theorem ok_X5_changeImmunity : okN yX5_changeImmunity 3 := by decide +kernel
theorem k612 : (Jvm.Cond.instanceMethod ({ cls := "HeroTable$Table", name := "changeImmunity", desc := "(ICI)I" } : Jvm.MethodName)) ∈ G9 := g9 612 (by decide +kernel) rfl
theorem k613 : (Jvm.Cond.selects "HeroTable$Table" ({ cls := "HeroTable$Table", name := "changeImmunity", desc := "(ICI)I" } : Jvm.MethodName) ({ cls := "HeroTable$Table", name := "changeImmunity", desc := "(ICI)I" } : Jvm.MethodName)) ∈ G9 := g9 613 (by decide +kernel) rfl
theorem k605 : (Jvm.Cond.code ({ cls := "HeroTable$Table", name := "quench", desc := "(I)I" } : Jvm.MethodName) prog_7_method_14_code (2 : Nat) (Option.some Jvm.ClassFile.FieldType.int)) ∈ G9 := g9 605 (by decide +kernel) rfl
theorem k1086 : (Jvm.Cond.methodLink "HeroTable" (97 : Nat) ({ cls := "HeroTable$Table", name := "quench", desc := "(I)I" } : Jvm.MethodName)) ∈ G9 := g9 1086 (by decide +kernel) rfl
theorem ok_X5_quench : okN yX5_quench 1 := by decide +kernel
theorem k603 : (Jvm.Cond.instanceMethod ({ cls := "HeroTable$Table", name := "quench", desc := "(I)I" } : Jvm.MethodName)) ∈ G9 := g9 603 (by decide +kernel) rfl
theorem k604 : (Jvm.Cond.selects "HeroTable$Table" ({ cls := "HeroTable$Table", name := "quench", desc := "(I)I" } : Jvm.MethodName) ({ cls := "HeroTable$Table", name := "quench", desc := "(I)I" } : Jvm.MethodName)) ∈ G9 := g9 604 (by decide +kernel) rfl
theorem k250 : (Jvm.Cond.fieldLink "HeroTable" (103 : Nat) "HeroTable$Table" "sources" "LHeroTable$Sources;") ∈ G9 := g9 250 (by decide +kernel) rfl
theorem k1102 : (Jvm.Cond.methodLink "HeroTable" (107 : Nat) ({ cls := "HeroTable$Sources", name := "isSource", desc := "(I)Z" } : Jvm.MethodName)) ∈ G9 := g9 1102 (by decide +kernel) rfl
theorem k120 : (Jvm.Cond.fieldLink "HeroTable" (138 : Nat) "HeroTable$Sources" "count" "I") ∈ G9 := g9 120 (by decide +kernel) rfl
theorem k253 : (Jvm.Cond.fieldLink "HeroTable" (144 : Nat) "HeroTable$Table" "dice" "LHeroTable$Dice;") ∈ G9 := g9 253 (by decide +kernel) rfl
theorem k328 : (Jvm.Cond.methodLink "HeroTable" (148 : Nat) ({ cls := "HeroTable$Dice", name := "left", desc := "()I" } : Jvm.MethodName)) ∈ G9 := g9 328 (by decide +kernel) rfl
theorem k259 : (Jvm.Cond.fieldLink "HeroTable" (175 : Nat) "HeroTable$Table" "roundNow" "I") ∈ G9 := g9 259 (by decide +kernel) rfl
theorem k304 : (Jvm.Cond.fieldLink "HeroTable" (212 : Nat) "HeroTable$Transcript" "count" "I") ∈ G9 := g9 304 (by decide +kernel) rfl
theorem k264 : (Jvm.Cond.fieldLink "HeroTable" (231 : Nat) "HeroTable$Table" "harmTaken" "J") ∈ G9 := g9 264 (by decide +kernel) rfl
theorem k618 : (Jvm.Cond.code ({ cls := "HeroTable$Table", name := "hearDie", desc := "(I)I" } : Jvm.MethodName) prog_7_method_17_code (2 : Nat) (Option.some Jvm.ClassFile.FieldType.int)) ∈ G9 := g9 618 (by decide +kernel) rfl
theorem k1143 : (Jvm.Cond.methodLink "HeroTable" (141 : Nat) ({ cls := "HeroTable$Table", name := "hearDie", desc := "(I)I" } : Jvm.MethodName)) ∈ G9 := g9 1143 (by decide +kernel) rfl
theorem ok_X5_hearDie : okN yX5_hearDie 1 := by decide +kernel
theorem k616 : (Jvm.Cond.instanceMethod ({ cls := "HeroTable$Table", name := "hearDie", desc := "(I)I" } : Jvm.MethodName)) ∈ G9 := g9 616 (by decide +kernel) rfl
theorem k617 : (Jvm.Cond.selects "HeroTable$Table" ({ cls := "HeroTable$Table", name := "hearDie", desc := "(I)I" } : Jvm.MethodName) ({ cls := "HeroTable$Table", name := "hearDie", desc := "(I)I" } : Jvm.MethodName)) ∈ G9 := g9 617 (by decide +kernel) rfl
theorem k639 : (Jvm.Cond.code ({ cls := "HeroTable$Table", name := "startFight", desc := "()I" } : Jvm.MethodName) prog_7_method_21_code (2 : Nat) (Option.some Jvm.ClassFile.FieldType.int)) ∈ G9 := g9 639 (by decide +kernel) rfl
theorem k1152 : (Jvm.Cond.methodLink "HeroTable" (154 : Nat) ({ cls := "HeroTable$Table", name := "startFight", desc := "()I" } : Jvm.MethodName)) ∈ G9 := g9 1152 (by decide +kernel) rfl
theorem ok_X5_startFight : okN yX5_startFight 0 := by decide +kernel
theorem k637 : (Jvm.Cond.instanceMethod ({ cls := "HeroTable$Table", name := "startFight", desc := "()I" } : Jvm.MethodName)) ∈ G9 := g9 637 (by decide +kernel) rfl
theorem k638 : (Jvm.Cond.selects "HeroTable$Table" ({ cls := "HeroTable$Table", name := "startFight", desc := "()I" } : Jvm.MethodName) ({ cls := "HeroTable$Table", name := "startFight", desc := "()I" } : Jvm.MethodName)) ∈ G9 := g9 638 (by decide +kernel) rfl
theorem k657 : (Jvm.Cond.code ({ cls := "HeroTable$Table", name := "passTurn", desc := "()I" } : Jvm.MethodName) prog_7_method_24_code (4 : Nat) (Option.some Jvm.ClassFile.FieldType.int)) ∈ G9 := g9 657 (by decide +kernel) rfl
theorem k1160 : (Jvm.Cond.methodLink "HeroTable" (157 : Nat) ({ cls := "HeroTable$Table", name := "passTurn", desc := "()I" } : Jvm.MethodName)) ∈ G9 := g9 1160 (by decide +kernel) rfl
theorem ok_X5_passTurn : okN yX5_passTurn 0 := by decide +kernel
theorem k655 : (Jvm.Cond.instanceMethod ({ cls := "HeroTable$Table", name := "passTurn", desc := "()I" } : Jvm.MethodName)) ∈ G9 := g9 655 (by decide +kernel) rfl
theorem k656 : (Jvm.Cond.selects "HeroTable$Table" ({ cls := "HeroTable$Table", name := "passTurn", desc := "()I" } : Jvm.MethodName) ({ cls := "HeroTable$Table", name := "passTurn", desc := "()I" } : Jvm.MethodName)) ∈ G9 := g9 656 (by decide +kernel) rfl
theorem k682 : (Jvm.Cond.code ({ cls := "HeroTable$Table", name := "stopFight", desc := "()I" } : Jvm.MethodName) prog_7_method_25_code (2 : Nat) (Option.some Jvm.ClassFile.FieldType.int)) ∈ G9 := g9 682 (by decide +kernel) rfl
theorem k1168 : (Jvm.Cond.methodLink "HeroTable" (160 : Nat) ({ cls := "HeroTable$Table", name := "stopFight", desc := "()I" } : Jvm.MethodName)) ∈ G9 := g9 1168 (by decide +kernel) rfl
theorem ok_X5_stopFight : okN yX5_stopFight 0 := by decide +kernel
theorem k680 : (Jvm.Cond.instanceMethod ({ cls := "HeroTable$Table", name := "stopFight", desc := "()I" } : Jvm.MethodName)) ∈ G9 := g9 680 (by decide +kernel) rfl
theorem k681 : (Jvm.Cond.selects "HeroTable$Table" ({ cls := "HeroTable$Table", name := "stopFight", desc := "()I" } : Jvm.MethodName) ({ cls := "HeroTable$Table", name := "stopFight", desc := "()I" } : Jvm.MethodName)) ∈ G9 := g9 681 (by decide +kernel) rfl
theorem k1176 : (Jvm.Cond.methodLink "HeroTable" (163 : Nat) ({ cls := "HeroTable$Table", name := "isTurnOn", desc := "()Z" } : Jvm.MethodName)) ∈ G9 := g9 1176 (by decide +kernel) rfl
theorem k763 : (Jvm.Cond.code ({ cls := "HeroTable$Table", name := "rise", desc := "()I" } : Jvm.MethodName) prog_7_method_33_code (2 : Nat) (Option.some Jvm.ClassFile.FieldType.int)) ∈ G9 := g9 763 (by decide +kernel) rfl
theorem k1216 : (Jvm.Cond.methodLink "HeroTable" (195 : Nat) ({ cls := "HeroTable$Table", name := "rise", desc := "()I" } : Jvm.MethodName)) ∈ G9 := g9 1216 (by decide +kernel) rfl
theorem ok_X5_rise : okN yX5_rise 0 := by decide +kernel
theorem k761 : (Jvm.Cond.instanceMethod ({ cls := "HeroTable$Table", name := "rise", desc := "()I" } : Jvm.MethodName)) ∈ G9 := g9 761 (by decide +kernel) rfl
theorem k762 : (Jvm.Cond.selects "HeroTable$Table" ({ cls := "HeroTable$Table", name := "rise", desc := "()I" } : Jvm.MethodName) ({ cls := "HeroTable$Table", name := "rise", desc := "()I" } : Jvm.MethodName)) ∈ G9 := g9 762 (by decide +kernel) rfl
theorem k750 : (Jvm.Cond.code ({ cls := "HeroTable$Table", name := "walk", desc := "(II)I" } : Jvm.MethodName) prog_7_method_31_code (7 : Nat) (Option.some Jvm.ClassFile.FieldType.int)) ∈ G9 := g9 750 (by decide +kernel) rfl
theorem k1208 : (Jvm.Cond.methodLink "HeroTable" (192 : Nat) ({ cls := "HeroTable$Table", name := "walk", desc := "(II)I" } : Jvm.MethodName)) ∈ G9 := g9 1208 (by decide +kernel) rfl
theorem ok_X5_walk : okN yX5_walk 2 := by decide +kernel
theorem k748 : (Jvm.Cond.instanceMethod ({ cls := "HeroTable$Table", name := "walk", desc := "(II)I" } : Jvm.MethodName)) ∈ G9 := g9 748 (by decide +kernel) rfl
theorem k749 : (Jvm.Cond.selects "HeroTable$Table" ({ cls := "HeroTable$Table", name := "walk", desc := "(II)I" } : Jvm.MethodName) ({ cls := "HeroTable$Table", name := "walk", desc := "(II)I" } : Jvm.MethodName)) ∈ G9 := g9 749 (by decide +kernel) rfl
theorem k771 : (Jvm.Cond.code ({ cls := "HeroTable$Table", name := "prepare", desc := "(CC)I" } : Jvm.MethodName) prog_7_method_34_code (6 : Nat) (Option.some Jvm.ClassFile.FieldType.int)) ∈ G9 := g9 771 (by decide +kernel) rfl
theorem k1224 : (Jvm.Cond.methodLink "HeroTable" (198 : Nat) ({ cls := "HeroTable$Table", name := "prepare", desc := "(CC)I" } : Jvm.MethodName)) ∈ G9 := g9 1224 (by decide +kernel) rfl
theorem ok_X5_prepare : okN yX5_prepare 2 := by decide +kernel
theorem k769 : (Jvm.Cond.instanceMethod ({ cls := "HeroTable$Table", name := "prepare", desc := "(CC)I" } : Jvm.MethodName)) ∈ G9 := g9 769 (by decide +kernel) rfl
theorem k770 : (Jvm.Cond.selects "HeroTable$Table" ({ cls := "HeroTable$Table", name := "prepare", desc := "(CC)I" } : Jvm.MethodName) ({ cls := "HeroTable$Table", name := "prepare", desc := "(CC)I" } : Jvm.MethodName)) ∈ G9 := g9 770 (by decide +kernel) rfl
theorem k776 : (Jvm.Cond.code ({ cls := "HeroTable$Table", name := "castSpell", desc := "(CII)I" } : Jvm.MethodName) prog_7_method_35_code (7 : Nat) (Option.some Jvm.ClassFile.FieldType.int)) ∈ G9 := g9 776 (by decide +kernel) rfl
theorem k1232 : (Jvm.Cond.methodLink "HeroTable" (202 : Nat) ({ cls := "HeroTable$Table", name := "castSpell", desc := "(CII)I" } : Jvm.MethodName)) ∈ G9 := g9 1232 (by decide +kernel) rfl
theorem ok_X5_castSpell : okN yX5_castSpell 3 := by decide +kernel
theorem k774 : (Jvm.Cond.instanceMethod ({ cls := "HeroTable$Table", name := "castSpell", desc := "(CII)I" } : Jvm.MethodName)) ∈ G9 := g9 774 (by decide +kernel) rfl
theorem k775 : (Jvm.Cond.selects "HeroTable$Table" ({ cls := "HeroTable$Table", name := "castSpell", desc := "(CII)I" } : Jvm.MethodName) ({ cls := "HeroTable$Table", name := "castSpell", desc := "(CII)I" } : Jvm.MethodName)) ∈ G9 := g9 775 (by decide +kernel) rfl
theorem k147 : (Jvm.Cond.fieldLink "HeroTable" (213 : Nat) "HeroTable$Dice" "told" "I") ∈ G9 := g9 147 (by decide +kernel) rfl
theorem k266 : (Jvm.Cond.fieldLink "HeroTable" (235 : Nat) "HeroTable$Table" "rolledAttacks" "I") ∈ G9 := g9 266 (by decide +kernel) rfl
theorem k1261 : (Jvm.Cond.instanceMethod ({ cls := "java/lang/ArithmeticException", name := "<init>", desc := "(Ljava/lang/String;)V" } : Jvm.MethodName)) ∈ G9 := g9 1261 (by decide +kernel) rfl
theorem k1262 : (Jvm.Cond.code ({ cls := "java/lang/ArithmeticException", name := "<init>", desc := "(Ljava/lang/String;)V" } : Jvm.MethodName) prog_17_method_2_code (2 : Nat) (Option.none : Option Jvm.ClassFile.FieldType)) ∈ G9 := g9 1262 (by decide +kernel) rfl
theorem k1263 : (Jvm.Cond.methodLink "java/lang/ArithmeticException" (7 : Nat) ({ cls := "java/lang/RuntimeException", name := "<init>", desc := "(Ljava/lang/String;)V" } : Jvm.MethodName)) ∈ G9 := g9 1263 (by decide +kernel) rfl
theorem k1279 : (Jvm.Cond.methodLink "HeroTable" (242 : Nat) ({ cls := "java/lang/ArithmeticException", name := "<init>", desc := "(Ljava/lang/String;)V" } : Jvm.MethodName)) ∈ G9 := g9 1279 (by decide +kernel) rfl
theorem k1260 : (Jvm.Cond.instantiable "java/lang/ArithmeticException" (6 : Nat)) ∈ G9 := g9 1260 (by decide +kernel) rfl
theorem k1272 : (Jvm.Cond.selects "java/lang/ArithmeticException" ({ cls := "java/lang/Throwable", name := "fillInStackTrace", desc := "(I)Ljava/lang/Throwable;" } : Jvm.MethodName) ({ cls := "java/lang/Throwable", name := "fillInStackTrace", desc := "(I)Ljava/lang/Throwable;" } : Jvm.MethodName)) ∈ G9 := g9 1272 (by decide +kernel) rfl
theorem k862 : (Jvm.Cond.selects "java/lang/ArithmeticException" ({ cls := "java/lang/Throwable", name := "fillInStackTrace", desc := "()Ljava/lang/Throwable;" } : Jvm.MethodName) ({ cls := "java/lang/Throwable", name := "fillInStackTrace", desc := "()Ljava/lang/Throwable;" } : Jvm.MethodName)) ∈ G9 := g9 862 (by decide +kernel) rfl
theorem k1266 : (Jvm.Cond.lays "java/lang/ArithmeticException" "java/lang/Throwable" "cause" "Ljava/lang/Throwable;") ∈ G9 := g9 1266 (by decide +kernel) rfl
theorem k1267 : (Jvm.Cond.lays "java/lang/ArithmeticException" "java/lang/Throwable" "stackTrace" "[Ljava/lang/StackTraceElement;") ∈ G9 := g9 1267 (by decide +kernel) rfl
theorem k1269 : (Jvm.Cond.lays "java/lang/ArithmeticException" "java/lang/Throwable" "suppressedExceptions" "Ljava/util/List;") ∈ G9 := g9 1269 (by decide +kernel) rfl
theorem k1265 : (Jvm.Cond.lays "java/lang/ArithmeticException" "java/lang/Throwable" "detailMessage" "Ljava/lang/String;") ∈ G9 := g9 1265 (by decide +kernel) rfl
theorem k1264 : (Jvm.Cond.lays "java/lang/ArithmeticException" "java/lang/Throwable" "backtrace" "Ljava/lang/Object;") ∈ G9 := g9 1264 (by decide +kernel) rfl
theorem hae_X7_242 : vx_atS "HeroTable" 242 "java/lang/ArithmeticException" ["java/lang/RuntimeException", "java/lang/Exception"] = [Jvm.Cond.initialized "java/lang/Throwable", Jvm.Cond.superclass "java/lang/Throwable" "java/lang/Object", Jvm.Cond.instanceMethod ({ cls := "java/lang/Throwable", name := "fillInStackTrace", desc := "()Ljava/lang/Throwable;" } : Jvm.MethodName), Jvm.Cond.codeSync ({ cls := "java/lang/Throwable", name := "fillInStackTrace", desc := "()Ljava/lang/Throwable;" } : Jvm.MethodName) prog_38_method_18_code (1 : Nat) (Option.some (Jvm.ClassFile.FieldType.object "java/lang/Throwable")), Jvm.Cond.instanceMethod ({ cls := "java/lang/Throwable", name := "fillInStackTrace", desc := "(I)Ljava/lang/Throwable;" } : Jvm.MethodName), Jvm.Cond.native ({ cls := "java/lang/Throwable", name := "fillInStackTrace", desc := "(I)Ljava/lang/Throwable;" } : Jvm.MethodName), Jvm.Cond.instanceMethod ({ cls := "java/lang/Throwable", name := "<init>", desc := "()V" } : Jvm.MethodName), Jvm.Cond.code ({ cls := "java/lang/Throwable", name := "<init>", desc := "()V" } : Jvm.MethodName) prog_38_method_1_code (1 : Nat) (Option.none : Option Jvm.ClassFile.FieldType), Jvm.Cond.instanceMethod ({ cls := "java/lang/Object", name := "<init>", desc := "()V" } : Jvm.MethodName), Jvm.Cond.code ({ cls := "java/lang/Object", name := "<init>", desc := "()V" } : Jvm.MethodName) object_method_1_code (1 : Nat) (Option.none : Option Jvm.ClassFile.FieldType), Jvm.Cond.methodLink "java/lang/Throwable" (1 : Nat) ({ cls := "java/lang/Object", name := "<init>", desc := "()V" } : Jvm.MethodName), Jvm.Cond.methodLink "java/lang/Throwable" (27 : Nat) ({ cls := "java/lang/Throwable", name := "fillInStackTrace", desc := "()Ljava/lang/Throwable;" } : Jvm.MethodName), Jvm.Cond.methodLink "java/lang/Throwable" (202 : Nat) ({ cls := "java/lang/Throwable", name := "fillInStackTrace", desc := "(I)Ljava/lang/Throwable;" } : Jvm.MethodName), Jvm.Cond.fieldLink "java/lang/Throwable" (7 : Nat) "java/lang/Throwable" "cause" "Ljava/lang/Throwable;", Jvm.Cond.lays "java/lang/Throwable" "java/lang/Throwable" "cause" "Ljava/lang/Throwable;", Jvm.Cond.fieldLink "java/lang/Throwable" (17 : Nat) "java/lang/Throwable" "stackTrace" "[Ljava/lang/StackTraceElement;", Jvm.Cond.lays "java/lang/Throwable" "java/lang/Throwable" "stackTrace" "[Ljava/lang/StackTraceElement;", Jvm.Cond.fieldLink "java/lang/Throwable" (24 : Nat) "java/lang/Throwable" "suppressedExceptions" "Ljava/util/List;", Jvm.Cond.lays "java/lang/Throwable" "java/lang/Throwable" "suppressedExceptions" "Ljava/util/List;", Jvm.Cond.fieldLink "java/lang/Throwable" (13 : Nat) "java/lang/Throwable" "UNASSIGNED_STACK" "[Ljava/lang/StackTraceElement;", Jvm.Cond.fieldLink "java/lang/Throwable" (20 : Nat) "java/lang/Throwable" "SUPPRESSED_SENTINEL" "Ljava/util/List;", Jvm.Cond.lays "java/lang/Throwable" "java/lang/Throwable" "detailMessage" "Ljava/lang/String;", Jvm.Cond.instanceMethod ({ cls := "java/lang/Throwable", name := "<init>", desc := "(Ljava/lang/String;)V" } : Jvm.MethodName), Jvm.Cond.code ({ cls := "java/lang/Throwable", name := "<init>", desc := "(Ljava/lang/String;)V" } : Jvm.MethodName) prog_38_method_2_code (2 : Nat) (Option.none : Option Jvm.ClassFile.FieldType), Jvm.Cond.fieldLink "java/lang/Throwable" (31 : Nat) "java/lang/Throwable" "detailMessage" "Ljava/lang/String;", Jvm.Cond.lays "java/lang/Throwable" "java/lang/Throwable" "detailMessage" "Ljava/lang/String;", Jvm.Cond.instanceMethod ({ cls := "java/lang/ArithmeticException", name := "<init>", desc := "(Ljava/lang/String;)V" } : Jvm.MethodName), Jvm.Cond.code ({ cls := "java/lang/ArithmeticException", name := "<init>", desc := "(Ljava/lang/String;)V" } : Jvm.MethodName) prog_17_method_2_code (2 : Nat) (Option.none : Option Jvm.ClassFile.FieldType), Jvm.Cond.methodLink "java/lang/ArithmeticException" (7 : Nat) ({ cls := "java/lang/RuntimeException", name := "<init>", desc := "(Ljava/lang/String;)V" } : Jvm.MethodName), Jvm.Cond.instanceMethod ({ cls := "java/lang/RuntimeException", name := "<init>", desc := "(Ljava/lang/String;)V" } : Jvm.MethodName), Jvm.Cond.declares ({ cls := "java/lang/RuntimeException", name := "<init>", desc := "(Ljava/lang/String;)V" } : Jvm.MethodName), Jvm.Cond.instanceMethod ({ cls := "java/lang/RuntimeException", name := "<init>", desc := "(Ljava/lang/String;)V" } : Jvm.MethodName), Jvm.Cond.code ({ cls := "java/lang/RuntimeException", name := "<init>", desc := "(Ljava/lang/String;)V" } : Jvm.MethodName) prog_32_method_2_code (2 : Nat) (Option.none : Option Jvm.ClassFile.FieldType), Jvm.Cond.methodLink "java/lang/RuntimeException" (7 : Nat) ({ cls := "java/lang/Exception", name := "<init>", desc := "(Ljava/lang/String;)V" } : Jvm.MethodName), Jvm.Cond.instanceMethod ({ cls := "java/lang/Exception", name := "<init>", desc := "(Ljava/lang/String;)V" } : Jvm.MethodName), Jvm.Cond.declares ({ cls := "java/lang/Exception", name := "<init>", desc := "(Ljava/lang/String;)V" } : Jvm.MethodName), Jvm.Cond.instanceMethod ({ cls := "java/lang/Exception", name := "<init>", desc := "(Ljava/lang/String;)V" } : Jvm.MethodName), Jvm.Cond.code ({ cls := "java/lang/Exception", name := "<init>", desc := "(Ljava/lang/String;)V" } : Jvm.MethodName) prog_23_method_2_code (2 : Nat) (Option.none : Option Jvm.ClassFile.FieldType), Jvm.Cond.methodLink "java/lang/Exception" (7 : Nat) ({ cls := "java/lang/Throwable", name := "<init>", desc := "(Ljava/lang/String;)V" } : Jvm.MethodName), Jvm.Cond.instanceMethod ({ cls := "java/lang/Throwable", name := "<init>", desc := "(Ljava/lang/String;)V" } : Jvm.MethodName), Jvm.Cond.declares ({ cls := "java/lang/Throwable", name := "<init>", desc := "(Ljava/lang/String;)V" } : Jvm.MethodName), Jvm.Cond.methodLink "HeroTable" (242 : Nat) ({ cls := "java/lang/ArithmeticException", name := "<init>", desc := "(Ljava/lang/String;)V" } : Jvm.MethodName), Jvm.Cond.instantiable "java/lang/ArithmeticException" (6 : Nat), Jvm.Cond.castable "java/lang/ArithmeticException" "java/lang/ArithmeticException", Jvm.Cond.selects "java/lang/ArithmeticException" ({ cls := "java/lang/Throwable", name := "fillInStackTrace", desc := "(I)Ljava/lang/Throwable;" } : Jvm.MethodName) ({ cls := "java/lang/Throwable", name := "fillInStackTrace", desc := "(I)Ljava/lang/Throwable;" } : Jvm.MethodName), Jvm.Cond.selects "java/lang/ArithmeticException" ({ cls := "java/lang/Throwable", name := "fillInStackTrace", desc := "()Ljava/lang/Throwable;" } : Jvm.MethodName) ({ cls := "java/lang/Throwable", name := "fillInStackTrace", desc := "()Ljava/lang/Throwable;" } : Jvm.MethodName), Jvm.Cond.lays "java/lang/ArithmeticException" "java/lang/Throwable" "cause" "Ljava/lang/Throwable;", Jvm.Cond.lays "java/lang/ArithmeticException" "java/lang/Throwable" "stackTrace" "[Ljava/lang/StackTraceElement;", Jvm.Cond.lays "java/lang/ArithmeticException" "java/lang/Throwable" "suppressedExceptions" "Ljava/util/List;", Jvm.Cond.lays "java/lang/ArithmeticException" "java/lang/Throwable" "detailMessage" "Ljava/lang/String;", Jvm.Cond.fieldLink "java/lang/Throwable" (198 : Nat) "java/lang/Throwable" "backtrace" "Ljava/lang/Object;", Jvm.Cond.lays "java/lang/Throwable" "java/lang/Throwable" "backtrace" "Ljava/lang/Object;", Jvm.Cond.lays "java/lang/ArithmeticException" "java/lang/Throwable" "backtrace" "Ljava/lang/Object;"] := by decide +kernel
theorem hat_X7_242 {args : Array Value} {s : State} (htg : ∀ w ∈ G9, w.before args s = true) (ht : TF s) : ∀ w ∈ vx_atS "HeroTable" 242 "java/lang/ArithmeticException" ["java/lang/RuntimeException", "java/lang/Exception"], w.before args s = true := by
  rw [hae_X7_242]
  exact vx_c (htg _ k64) (vx_c (htg _ k851) (vx_c (htg _ k860) (vx_c (htg _ k868) (vx_c (htg _ k871) (vx_c (htg _ k873) (vx_c (htg _ k852) (vx_c (htg _ k853) (vx_c (htg _ k98) (vx_c (htg _ k99) (vx_c (htg _ k854) (vx_c (htg _ k859) (vx_c (htg _ k869) (vx_c (htg _ k889) (vx_c (htg _ k841) (vx_c (htg _ k890) (vx_c (htg _ k843) (vx_c (htg _ k891) (vx_c (htg _ k845) (vx_c (htg _ k855) (vx_c (htg _ k857) (vx_c (htg _ k847) (vx_c (htg _ k885) (vx_c (htg _ k886) (vx_c (htg _ k888) (vx_c (htg _ k847) (vx_c (htg _ k1261) (vx_c (htg _ k1262) (vx_c (htg _ k1263) (vx_c (htg _ k879) (vx_c (va_Nw.use rfl ht.2.2.2.2.2.2.2.2.1) (vx_c (htg _ k879) (vx_c (htg _ k880) (vx_c (htg _ k881) (vx_c (htg _ k882) (vx_c (va_Nw.use rfl ht.2.2.2.2.2.2.2.2.2.1) (vx_c (htg _ k882) (vx_c (htg _ k883) (vx_c (htg _ k884) (vx_c (htg _ k885) (vx_c (va_Nw.use rfl ht.2.2.2.2.2.2.2.2.2.2.1) (vx_c (htg _ k1279) (vx_c (htg _ k1260) (vx_c (va_Nw.use rfl ht.2.2.2.2.1.2.2.2.2) (vx_c (htg _ k1272) (vx_c (htg _ k862) (vx_c (htg _ k1266) (vx_c (htg _ k1267) (vx_c (htg _ k1269) (vx_c (htg _ k1265) (vx_c (htg _ k850) (vx_c (htg _ k849) (vx_c (htg _ k1264) (vx_n)))))))))))))))))))))))))))))))))))))))))))))))))))))
theorem hgd_X7_242 : ∀ w ∈ Cond.classLink "HeroTable" 238 "java/lang/ArithmeticException" :: Cond.initialized "java/lang/ArithmeticException" :: vx_atS "HeroTable" 242 "java/lang/ArithmeticException" ["java/lang/RuntimeException", "java/lang/Exception"], vx_ot w = true := by
  rw [hae_X7_242]
  decide +kernel
theorem k1277 : (Jvm.Cond.classLink "HeroTable" (238 : Nat) "java/lang/ArithmeticException") ∈ G9 := g9 1277 (by decide +kernel) rfl
theorem k91 : (Jvm.Cond.initialized "java/lang/ArithmeticException") ∈ G9 := g9 91 (by decide +kernel) rfl
theorem k255 : (Jvm.Cond.fieldLink "HeroTable" (246 : Nat) "HeroTable$Table" "heroCount" "I") ∈ G9 := g9 255 (by decide +kernel) rfl
theorem k351 : (Jvm.Cond.code ({ cls := "HeroTable$Table", name := "areNumbersSound", desc := "()Z" } : Jvm.MethodName) prog_7_method_40_code (3 : Nat) (Option.some Jvm.ClassFile.FieldType.boolean)) ∈ G9 := g9 351 (by decide +kernel) rfl
theorem k348 : (Jvm.Cond.methodLink "HeroTable" (251 : Nat) ({ cls := "HeroTable$Table", name := "areNumbersSound", desc := "()Z" } : Jvm.MethodName)) ∈ G9 := g9 348 (by decide +kernel) rfl
theorem ok_X5_areNumbersSound : okN yX5_areNumbersSound 0 := by decide +kernel
theorem k349 : (Jvm.Cond.instanceMethod ({ cls := "HeroTable$Table", name := "areNumbersSound", desc := "()Z" } : Jvm.MethodName)) ∈ G9 := g9 349 (by decide +kernel) rfl
theorem k350 : (Jvm.Cond.selects "HeroTable$Table" ({ cls := "HeroTable$Table", name := "areNumbersSound", desc := "()Z" } : Jvm.MethodName) ({ cls := "HeroTable$Table", name := "areNumbersSound", desc := "()Z" } : Jvm.MethodName)) ∈ G9 := g9 350 (by decide +kernel) rfl
theorem k364 : (Jvm.Cond.code ({ cls := "HeroTable$Sources", name := "areMinded", desc := "()Z" } : Jvm.MethodName) prog_6_method_19_code (3 : Nat) (Option.some Jvm.ClassFile.FieldType.boolean)) ∈ G9 := g9 364 (by decide +kernel) rfl
theorem k361 : (Jvm.Cond.methodLink "HeroTable" (254 : Nat) ({ cls := "HeroTable$Sources", name := "areMinded", desc := "()Z" } : Jvm.MethodName)) ∈ G9 := g9 361 (by decide +kernel) rfl
theorem ok_X4_areMinded : okN yX4_areMinded 0 := by decide +kernel
theorem k362 : (Jvm.Cond.instanceMethod ({ cls := "HeroTable$Sources", name := "areMinded", desc := "()Z" } : Jvm.MethodName)) ∈ G9 := g9 362 (by decide +kernel) rfl
theorem k363 : (Jvm.Cond.selects "HeroTable$Sources" ({ cls := "HeroTable$Sources", name := "areMinded", desc := "()Z" } : Jvm.MethodName) ({ cls := "HeroTable$Sources", name := "areMinded", desc := "()Z" } : Jvm.MethodName)) ∈ G9 := g9 363 (by decide +kernel) rfl
theorem k368 : (Jvm.Cond.code ({ cls := "HeroTable$Table", name := "areCellsSingle", desc := "()Z" } : Jvm.MethodName) prog_7_method_41_code (2 : Nat) (Option.some Jvm.ClassFile.FieldType.boolean)) ∈ G9 := g9 368 (by decide +kernel) rfl
theorem k365 : (Jvm.Cond.methodLink "HeroTable" (257 : Nat) ({ cls := "HeroTable$Table", name := "areCellsSingle", desc := "()Z" } : Jvm.MethodName)) ∈ G9 := g9 365 (by decide +kernel) rfl
theorem ok_X5_areCellsSingle : okN yX5_areCellsSingle 0 := by decide +kernel
theorem k366 : (Jvm.Cond.instanceMethod ({ cls := "HeroTable$Table", name := "areCellsSingle", desc := "()Z" } : Jvm.MethodName)) ∈ G9 := g9 366 (by decide +kernel) rfl
theorem k367 : (Jvm.Cond.selects "HeroTable$Table" ({ cls := "HeroTable$Table", name := "areCellsSingle", desc := "()Z" } : Jvm.MethodName) ({ cls := "HeroTable$Table", name := "areCellsSingle", desc := "()Z" } : Jvm.MethodName)) ∈ G9 := g9 367 (by decide +kernel) rfl
theorem k311 : (Jvm.Cond.fieldLink "HeroTable" (16 : Nat) "HeroTable" "replayed" "LHeroTable$Table;") ∈ G9 := g9 311 (by decide +kernel) rfl
theorem k376 : (Jvm.Cond.code ({ cls := "HeroTable$Transcript", name := "playOn", desc := "(LHeroTable$Table;II)V" } : Jvm.MethodName) prog_8_method_3_code (12 : Nat) (Option.none : Option Jvm.ClassFile.FieldType)) ∈ G9 := g9 376 (by decide +kernel) rfl
theorem k373 : (Jvm.Cond.methodLink "HeroTable" (220 : Nat) ({ cls := "HeroTable$Transcript", name := "playOn", desc := "(LHeroTable$Table;II)V" } : Jvm.MethodName)) ∈ G9 := g9 373 (by decide +kernel) rfl
theorem ok_X6_playOn : okN yX6_playOn 3 := by decide +kernel
theorem k374 : (Jvm.Cond.instanceMethod ({ cls := "HeroTable$Transcript", name := "playOn", desc := "(LHeroTable$Table;II)V" } : Jvm.MethodName)) ∈ G9 := g9 374 (by decide +kernel) rfl
theorem k375 : (Jvm.Cond.selects "HeroTable$Transcript" ({ cls := "HeroTable$Transcript", name := "playOn", desc := "(LHeroTable$Table;II)V" } : Jvm.MethodName) ({ cls := "HeroTable$Transcript", name := "playOn", desc := "(LHeroTable$Table;II)V" } : Jvm.MethodName)) ∈ G9 := g9 375 (by decide +kernel) rfl
theorem k813 : (Jvm.Cond.code ({ cls := "HeroTable$Table", name := "hasLivesOf", desc := "(LHeroTable$Table;)Z" } : Jvm.MethodName) prog_7_method_42_code (3 : Nat) (Option.some Jvm.ClassFile.FieldType.boolean)) ∈ G9 := g9 813 (by decide +kernel) rfl
theorem k810 : (Jvm.Cond.methodLink "HeroTable" (260 : Nat) ({ cls := "HeroTable$Table", name := "hasLivesOf", desc := "(LHeroTable$Table;)Z" } : Jvm.MethodName)) ∈ G9 := g9 810 (by decide +kernel) rfl
theorem ok_X5_hasLivesOf : okN yX5_hasLivesOf 1 := by decide +kernel
theorem k811 : (Jvm.Cond.instanceMethod ({ cls := "HeroTable$Table", name := "hasLivesOf", desc := "(LHeroTable$Table;)Z" } : Jvm.MethodName)) ∈ G9 := g9 811 (by decide +kernel) rfl
theorem k812 : (Jvm.Cond.selects "HeroTable$Table" ({ cls := "HeroTable$Table", name := "hasLivesOf", desc := "(LHeroTable$Table;)Z" } : Jvm.MethodName) ({ cls := "HeroTable$Table", name := "hasLivesOf", desc := "(LHeroTable$Table;)Z" } : Jvm.MethodName)) ∈ G9 := g9 812 (by decide +kernel) rfl
theorem k97 : (Jvm.Cond.methodLink "HeroTable" (1 : Nat) ({ cls := "java/lang/Object", name := "<init>", desc := "()V" } : Jvm.MethodName)) ∈ G9 := g9 97 (by decide +kernel) rfl
theorem k100 : (Jvm.Cond.classLink "HeroTable" (7 : Nat) "HeroTable$Table") ∈ G9 := g9 100 (by decide +kernel) rfl
theorem k101 : (Jvm.Cond.instantiable "HeroTable$Table" (13 : Nat)) ∈ G9 := g9 101 (by decide +kernel) rfl
theorem k104 : (Jvm.Cond.code ({ cls := "HeroTable$Table", name := "<init>", desc := "()V" } : Jvm.MethodName) prog_7_method_1_code (2 : Nat) (Option.none : Option Jvm.ClassFile.FieldType)) ∈ G9 := g9 104 (by decide +kernel) rfl
theorem k102 : (Jvm.Cond.methodLink "HeroTable" (9 : Nat) ({ cls := "HeroTable$Table", name := "<init>", desc := "()V" } : Jvm.MethodName)) ∈ G9 := g9 102 (by decide +kernel) rfl
theorem ok_X5_init : okN yX5_init 0 := by decide +kernel
theorem k103 : (Jvm.Cond.instanceMethod ({ cls := "HeroTable$Table", name := "<init>", desc := "()V" } : Jvm.MethodName)) ∈ G9 := g9 103 (by decide +kernel) rfl
theorem k296 : (Jvm.Cond.classLink "HeroTable" (19 : Nat) "HeroTable$Transcript") ∈ G9 := g9 296 (by decide +kernel) rfl
theorem k297 : (Jvm.Cond.instantiable "HeroTable$Transcript" (2 : Nat)) ∈ G9 := g9 297 (by decide +kernel) rfl
theorem k300 : (Jvm.Cond.code ({ cls := "HeroTable$Transcript", name := "<init>", desc := "()V" } : Jvm.MethodName) prog_8_method_1_code (1 : Nat) (Option.none : Option Jvm.ClassFile.FieldType)) ∈ G9 := g9 300 (by decide +kernel) rfl
theorem ok_X6_init : okN yX6_init 0 := by decide +kernel
theorem k299 : (Jvm.Cond.instanceMethod ({ cls := "HeroTable$Transcript", name := "<init>", desc := "()V" } : Jvm.MethodName)) ∈ G9 := g9 299 (by decide +kernel) rfl
theorem dX6_playOn_0 : decode cX6_playOn 0 = .ok (.aload_n 1, 1) := by decide +kernel
theorem dX6_playOn_1 : decode cX6_playOn 1 = .ok (.invokevirtual 25, 3) := by decide +kernel
theorem dX6_playOn_4 : decode cX6_playOn 4 = .ok (.iconst 0, 1) := by decide +kernel
theorem dX6_playOn_5 : decode cX6_playOn 5 = .ok (.istore 4, 2) := by decide +kernel
theorem dX6_playOn_7 : decode cX6_playOn 7 = .ok (.iconst 0, 1) := by decide +kernel
theorem dX6_playOn_8 : decode cX6_playOn 8 = .ok (.istore 5, 2) := by decide +kernel
theorem dX6_playOn_10 : decode cX6_playOn 10 = .ok (.iload 5, 2) := by decide +kernel
theorem dX6_playOn_12 : decode cX6_playOn 12 = .ok (.aload_n 0, 1) := by decide +kernel
theorem dX6_playOn_13 : decode cX6_playOn 13 = .ok (.getfield 15, 3) := by decide +kernel
theorem dX6_playOn_16 : decode cX6_playOn 16 = .ok (.if_icmp .ge 418, 3) := by decide +kernel
theorem dX6_playOn_434 : decode cX6_playOn 434 = .ok (.return_, 1) := by decide +kernel
theorem dX7_answered_0 : decode cX7_answered 0 = .ok (.iload_n 0, 1) := by decide +kernel
theorem dX7_answered_1 : decode cX7_answered 1 = .ok (.ldc_w 264, 3) := by decide +kernel
theorem dX7_answered_4 : decode cX7_answered 4 = .ok (.if_icmp .ne 14, 3) := by decide +kernel
theorem dX7_answered_7 : decode cX7_answered 7 = .ok (.new 113, 3) := by decide +kernel
theorem dX7_answered_10 : decode cX7_answered 10 = .ok (.dup, 1) := by decide +kernel
theorem dX7_answered_11 : decode cX7_answered 11 = .ok (.ldc_w 265, 3) := by decide +kernel
theorem dX7_answered_14 : decode cX7_answered 14 = .ok (.invokespecial 117, 3) := by decide +kernel
theorem dX7_answered_17 : decode cX7_answered 17 = .ok (.athrow, 1) := by decide +kernel
theorem dX7_answered_18 : decode cX7_answered 18 = .ok (.iload_n 0, 1) := by decide +kernel
theorem dX7_answered_19 : decode cX7_answered 19 = .ok (.ldc_w 267, 3) := by decide +kernel
theorem dX7_answered_22 : decode cX7_answered 22 = .ok (.if_icmp .ne 14, 3) := by decide +kernel
theorem dX7_answered_25 : decode cX7_answered 25 = .ok (.new 78, 3) := by decide +kernel
theorem dX7_answered_28 : decode cX7_answered 28 = .ok (.dup, 1) := by decide +kernel
theorem dX7_answered_29 : decode cX7_answered 29 = .ok (.ldc_w 268, 3) := by decide +kernel
theorem dX7_answered_32 : decode cX7_answered 32 = .ok (.invokespecial 82, 3) := by decide +kernel
theorem dX7_answered_35 : decode cX7_answered 35 = .ok (.athrow, 1) := by decide +kernel
theorem dX7_answered_36 : decode cX7_answered 36 = .ok (.iload_n 0, 1) := by decide +kernel
theorem dX7_answered_37 : decode cX7_answered 37 = .ok (.ldc_w 270, 3) := by decide +kernel
theorem dX7_answered_40 : decode cX7_answered 40 = .ok (.if_icmp .ne 14, 3) := by decide +kernel
theorem dX7_answered_43 : decode cX7_answered 43 = .ok (.new 271, 3) := by decide +kernel
theorem dX7_answered_46 : decode cX7_answered 46 = .ok (.dup, 1) := by decide +kernel
theorem dX7_answered_47 : decode cX7_answered 47 = .ok (.ldc_w 273, 3) := by decide +kernel
theorem dX7_answered_50 : decode cX7_answered 50 = .ok (.invokespecial 275, 3) := by decide +kernel
theorem dX7_answered_53 : decode cX7_answered 53 = .ok (.athrow, 1) := by decide +kernel
theorem dX7_answered_54 : decode cX7_answered 54 = .ok (.iload_n 0, 1) := by decide +kernel
theorem dX7_answered_55 : decode cX7_answered 55 = .ok (.ldc_w 276, 3) := by decide +kernel
theorem dX7_answered_58 : decode cX7_answered 58 = .ok (.if_icmp .ne 14, 3) := by decide +kernel
theorem dX7_answered_72 : decode cX7_answered 72 = .ok (.iload_n 0, 1) := by decide +kernel
theorem dX7_answered_73 : decode cX7_answered 73 = .ok (.ldc_w 282, 3) := by decide +kernel
theorem dX7_answered_76 : decode cX7_answered 76 = .ok (.if_icmp .ne 13, 3) := by decide +kernel
theorem dX7_answered_79 : decode cX7_answered 79 = .ok (.new 167, 3) := by decide +kernel
theorem dX7_answered_82 : decode cX7_answered 82 = .ok (.dup, 1) := by decide +kernel
theorem dX7_answered_83 : decode cX7_answered 83 = .ok (.ldc 249, 2) := by decide +kernel
theorem dX7_answered_85 : decode cX7_answered 85 = .ok (.invokespecial 171, 3) := by decide +kernel
theorem dX7_answered_88 : decode cX7_answered 88 = .ok (.athrow, 1) := by decide +kernel
theorem dX7_answered_89 : decode cX7_answered 89 = .ok (.iload_n 0, 1) := by decide +kernel
theorem dX7_answered_90 : decode cX7_answered 90 = .ok (.ireturn, 1) := by decide +kernel
theorem dX7_knownHero_0 : decode cX7_knownHero 0 = .ok (.aload_n 0, 1) := by decide +kernel
theorem dX7_knownHero_1 : decode cX7_knownHero 1 = .ok (.getfield 10, 3) := by decide +kernel
theorem dX7_knownHero_4 : decode cX7_knownHero 4 = .ok (.iload_n 1, 1) := by decide +kernel
theorem dX7_knownHero_5 : decode cX7_knownHero 5 = .ok (.invokevirtual 224, 3) := by decide +kernel
theorem dX7_knownHero_8 : decode cX7_knownHero 8 = .ok (.ifCond .ne 14, 3) := by decide +kernel
theorem dX7_knownHero_11 : decode cX7_knownHero 11 = .ok (.new 113, 3) := by decide +kernel
theorem dX7_knownHero_14 : decode cX7_knownHero 14 = .ok (.dup, 1) := by decide +kernel
theorem dX7_knownHero_15 : decode cX7_knownHero 15 = .ok (.ldc_w 283, 3) := by decide +kernel
theorem dX7_knownHero_18 : decode cX7_knownHero 18 = .ok (.invokespecial 117, 3) := by decide +kernel
theorem dX7_knownHero_21 : decode cX7_knownHero 21 = .ok (.athrow, 1) := by decide +kernel
theorem dX7_addHero_0 : decode cX7_addHero 0 = .ok (.aload_n 0, 1) := by decide +kernel
theorem dX7_addHero_1 : decode cX7_addHero 1 = .ok (.getfield 10, 3) := by decide +kernel
theorem dX7_addHero_4 : decode cX7_addHero 4 = .ok (.iload_n 1, 1) := by decide +kernel
theorem dX7_addHero_5 : decode cX7_addHero 5 = .ok (.iload_n 2, 1) := by decide +kernel
theorem dX7_addHero_6 : decode cX7_addHero 6 = .ok (.iload_n 3, 1) := by decide +kernel
theorem dX7_addHero_7 : decode cX7_addHero 7 = .ok (.iload 4, 2) := by decide +kernel
theorem dX7_addHero_9 : decode cX7_addHero 9 = .ok (.iload 5, 2) := by decide +kernel
theorem dX7_addHero_11 : decode cX7_addHero 11 = .ok (.invokevirtual 26, 3) := by decide +kernel
theorem dX7_addHero_14 : decode cX7_addHero 14 = .ok (.invokestatic 30, 3) := by decide +kernel
theorem dX7_addHero_17 : decode cX7_addHero 17 = .ok (.istore 6, 2) := by decide +kernel
theorem dX7_addHero_19 : decode cX7_addHero 19 = .ok (.aload_n 0, 1) := by decide +kernel
theorem dX7_addHero_20 : decode cX7_addHero 20 = .ok (.getfield 22, 3) := by decide +kernel
theorem dX7_addHero_23 : decode cX7_addHero 23 = .ok (.iconst 0, 1) := by decide +kernel
theorem dX7_addHero_24 : decode cX7_addHero 24 = .ok (.iload_n 1, 1) := by decide +kernel
theorem dX7_addHero_25 : decode cX7_addHero 25 = .ok (.iload_n 2, 1) := by decide +kernel
theorem dX7_addHero_26 : decode cX7_addHero 26 = .ok (.iload_n 3, 1) := by decide +kernel
theorem dX7_addHero_27 : decode cX7_addHero 27 = .ok (.iload 4, 2) := by decide +kernel
theorem dX7_addHero_29 : decode cX7_addHero 29 = .ok (.iload 5, 2) := by decide +kernel
theorem dX7_addHero_31 : decode cX7_addHero 31 = .ok (.iconst 0, 1) := by decide +kernel
theorem dX7_addHero_32 : decode cX7_addHero 32 = .ok (.invokevirtual 34, 3) := by decide +kernel
theorem dX7_addHero_35 : decode cX7_addHero 35 = .ok (.iload 6, 2) := by decide +kernel
theorem dX7_addHero_37 : decode cX7_addHero 37 = .ok (.ireturn, 1) := by decide +kernel
theorem dX7_setGround_0 : decode cX7_setGround 0 = .ok (.aload_n 0, 1) := by decide +kernel
theorem dX7_setGround_1 : decode cX7_setGround 1 = .ok (.getfield 10, 3) := by decide +kernel
theorem dX7_setGround_4 : decode cX7_setGround 4 = .ok (.iload_n 1, 1) := by decide +kernel
theorem dX7_setGround_5 : decode cX7_setGround 5 = .ok (.iload_n 2, 1) := by decide +kernel
theorem dX7_setGround_6 : decode cX7_setGround 6 = .ok (.iload_n 3, 1) := by decide +kernel
theorem dX7_setGround_7 : decode cX7_setGround 7 = .ok (.invokevirtual 38, 3) := by decide +kernel
theorem dX7_setGround_10 : decode cX7_setGround 10 = .ok (.invokestatic 30, 3) := by decide +kernel
theorem dX7_setGround_13 : decode cX7_setGround 13 = .ok (.istore 4, 2) := by decide +kernel
theorem dX7_setGround_15 : decode cX7_setGround 15 = .ok (.aload_n 0, 1) := by decide +kernel
theorem dX7_setGround_16 : decode cX7_setGround 16 = .ok (.getfield 22, 3) := by decide +kernel
theorem dX7_setGround_19 : decode cX7_setGround 19 = .ok (.iconst 1, 1) := by decide +kernel
theorem dX7_setGround_20 : decode cX7_setGround 20 = .ok (.iload_n 1, 1) := by decide +kernel
theorem dX7_setGround_21 : decode cX7_setGround 21 = .ok (.iload_n 2, 1) := by decide +kernel
theorem dX7_setGround_22 : decode cX7_setGround 22 = .ok (.iload_n 3, 1) := by decide +kernel
theorem dX7_setGround_23 : decode cX7_setGround 23 = .ok (.iconst 0, 1) := by decide +kernel
theorem dX7_setGround_24 : decode cX7_setGround 24 = .ok (.iconst 0, 1) := by decide +kernel
theorem dX7_setGround_25 : decode cX7_setGround 25 = .ok (.iconst 0, 1) := by decide +kernel
theorem dX7_setGround_26 : decode cX7_setGround 26 = .ok (.invokevirtual 34, 3) := by decide +kernel
theorem dX7_setGround_29 : decode cX7_setGround 29 = .ok (.iload 4, 2) := by decide +kernel
theorem dX7_setGround_31 : decode cX7_setGround 31 = .ok (.i2c, 1) := by decide +kernel
theorem dX7_setGround_32 : decode cX7_setGround 32 = .ok (.ireturn, 1) := by decide +kernel
theorem dX7_setBase_0 : decode cX7_setBase 0 = .ok (.aload_n 0, 1) := by decide +kernel
theorem dX7_setBase_1 : decode cX7_setBase 1 = .ok (.getfield 10, 3) := by decide +kernel
theorem dX7_setBase_4 : decode cX7_setBase 4 = .ok (.iload_n 1, 1) := by decide +kernel
theorem dX7_setBase_5 : decode cX7_setBase 5 = .ok (.iload_n 2, 1) := by decide +kernel
theorem dX7_setBase_6 : decode cX7_setBase 6 = .ok (.iload_n 3, 1) := by decide +kernel
theorem dX7_setBase_7 : decode cX7_setBase 7 = .ok (.invokevirtual 42, 3) := by decide +kernel
theorem dX7_setBase_10 : decode cX7_setBase 10 = .ok (.invokestatic 30, 3) := by decide +kernel
theorem dX7_setSpare_0 : decode cX7_setSpare 0 = .ok (.aload_n 0, 1) := by decide +kernel
theorem dX7_setSpare_1 : decode cX7_setSpare 1 = .ok (.getfield 10, 3) := by decide +kernel
theorem dX7_setSpare_4 : decode cX7_setSpare 4 = .ok (.iload_n 1, 1) := by decide +kernel
theorem dX7_setSpare_5 : decode cX7_setSpare 5 = .ok (.iload_n 2, 1) := by decide +kernel
theorem dX7_setSpare_6 : decode cX7_setSpare 6 = .ok (.invokevirtual 46, 3) := by decide +kernel
theorem dX7_setSpare_9 : decode cX7_setSpare 9 = .ok (.invokestatic 30, 3) := by decide +kernel
theorem dX7_heal_0 : decode cX7_heal 0 = .ok (.aload_n 0, 1) := by decide +kernel
theorem dX7_heal_1 : decode cX7_heal 1 = .ok (.getfield 10, 3) := by decide +kernel
theorem dX7_heal_4 : decode cX7_heal 4 = .ok (.iload_n 1, 1) := by decide +kernel
theorem dX7_heal_5 : decode cX7_heal 5 = .ok (.iload_n 2, 1) := by decide +kernel
theorem dX7_heal_6 : decode cX7_heal 6 = .ok (.invokevirtual 50, 3) := by decide +kernel
theorem dX7_heal_9 : decode cX7_heal 9 = .ok (.invokestatic 30, 3) := by decide +kernel
theorem dX7_lifeOf_0 : decode cX7_lifeOf 0 = .ok (.aload_n 0, 1) := by decide +kernel
theorem dX7_lifeOf_1 : decode cX7_lifeOf 1 = .ok (.iload_n 1, 1) := by decide +kernel
theorem dX7_lifeOf_2 : decode cX7_lifeOf 2 = .ok (.invokevirtual 53, 3) := by decide +kernel
theorem dX7_spareOf_0 : decode cX7_spareOf 0 = .ok (.aload_n 0, 1) := by decide +kernel
theorem dX7_spareOf_1 : decode cX7_spareOf 1 = .ok (.iload_n 1, 1) := by decide +kernel
theorem dX7_spareOf_2 : decode cX7_spareOf 2 = .ok (.invokevirtual 53, 3) := by decide +kernel
theorem dX7_cellOf_0 : decode cX7_cellOf 0 = .ok (.aload_n 0, 1) := by decide +kernel
theorem dX7_cellOf_1 : decode cX7_cellOf 1 = .ok (.iload_n 1, 1) := by decide +kernel
theorem dX7_cellOf_2 : decode cX7_cellOf 2 = .ok (.invokevirtual 53, 3) := by decide +kernel
theorem dX7_sees_0 : decode cX7_sees 0 = .ok (.aload_n 0, 1) := by decide +kernel
theorem dX7_sees_1 : decode cX7_sees 1 = .ok (.iload_n 1, 1) := by decide +kernel
theorem dX7_sees_2 : decode cX7_sees 2 = .ok (.invokevirtual 53, 3) := by decide +kernel
theorem dX7_addSource_0 : decode cX7_addSource 0 = .ok (.aload_n 0, 1) := by decide +kernel
theorem dX7_addSource_1 : decode cX7_addSource 1 = .ok (.getfield 10, 3) := by decide +kernel
theorem dX7_addSource_4 : decode cX7_addSource 4 = .ok (.iload_n 1, 1) := by decide +kernel
theorem dX7_addSource_5 : decode cX7_addSource 5 = .ok (.iload_n 2, 1) := by decide +kernel
theorem dX7_addSource_6 : decode cX7_addSource 6 = .ok (.iload_n 3, 1) := by decide +kernel
theorem dX7_addSource_7 : decode cX7_addSource 7 = .ok (.iload 4, 2) := by decide +kernel
theorem dX7_addSource_9 : decode cX7_addSource 9 = .ok (.iload 5, 2) := by decide +kernel
theorem dX7_addSource_11 : decode cX7_addSource 11 = .ok (.iload 6, 2) := by decide +kernel
theorem dX7_addSource_13 : decode cX7_addSource 13 = .ok (.invokevirtual 89, 3) := by decide +kernel
theorem dX7_addSource_16 : decode cX7_addSource 16 = .ok (.invokestatic 30, 3) := by decide +kernel
theorem dX7_afflict_0 : decode cX7_afflict 0 = .ok (.aload_n 0, 1) := by decide +kernel
theorem dX7_afflict_1 : decode cX7_afflict 1 = .ok (.getfield 10, 3) := by decide +kernel
theorem dX7_afflict_4 : decode cX7_afflict 4 = .ok (.iload_n 1, 1) := by decide +kernel
theorem dX7_afflict_5 : decode cX7_afflict 5 = .ok (.iload_n 2, 1) := by decide +kernel
theorem dX7_afflict_6 : decode cX7_afflict 6 = .ok (.iload_n 3, 1) := by decide +kernel
theorem dX7_afflict_7 : decode cX7_afflict 7 = .ok (.iload 4, 2) := by decide +kernel
theorem dX7_afflict_9 : decode cX7_afflict 9 = .ok (.iload 5, 2) := by decide +kernel
theorem dX7_afflict_11 : decode cX7_afflict 11 = .ok (.invokevirtual 93, 3) := by decide +kernel
theorem dX7_afflict_14 : decode cX7_afflict 14 = .ok (.invokestatic 30, 3) := by decide +kernel
theorem dX7_numberOf_0 : decode cX7_numberOf 0 = .ok (.aload_n 0, 1) := by decide +kernel
theorem dX7_numberOf_1 : decode cX7_numberOf 1 = .ok (.iload_n 1, 1) := by decide +kernel
theorem dX7_numberOf_2 : decode cX7_numberOf 2 = .ok (.invokevirtual 53, 3) := by decide +kernel
theorem dX7_numberAnew_0 : decode cX7_numberAnew 0 = .ok (.aload_n 0, 1) := by decide +kernel
theorem dX7_numberAnew_1 : decode cX7_numberAnew 1 = .ok (.iload_n 1, 1) := by decide +kernel
theorem dX7_numberAnew_2 : decode cX7_numberAnew 2 = .ok (.invokevirtual 53, 3) := by decide +kernel
theorem dX7_has_0 : decode cX7_has 0 = .ok (.aload_n 0, 1) := by decide +kernel
theorem dX7_has_1 : decode cX7_has 1 = .ok (.iload_n 1, 1) := by decide +kernel
theorem dX7_has_2 : decode cX7_has 2 = .ok (.invokevirtual 53, 3) := by decide +kernel
theorem dX7_canReact_0 : decode cX7_canReact 0 = .ok (.aload_n 0, 1) := by decide +kernel
theorem dX7_canReact_1 : decode cX7_canReact 1 = .ok (.iload_n 1, 1) := by decide +kernel
theorem dX7_canReact_2 : decode cX7_canReact 2 = .ok (.invokevirtual 53, 3) := by decide +kernel
theorem dX7_attack_0 : decode cX7_attack 0 = .ok (.aload_n 0, 1) := by decide +kernel
theorem dX7_attack_1 : decode cX7_attack 1 = .ok (.getfield 10, 3) := by decide +kernel
theorem dX7_attack_4 : decode cX7_attack 4 = .ok (.iload_n 1, 1) := by decide +kernel
theorem dX7_attack_5 : decode cX7_attack 5 = .ok (.invokevirtual 189, 3) := by decide +kernel
theorem dX7_attack_8 : decode cX7_attack 8 = .ok (.invokestatic 30, 3) := by decide +kernel
theorem dX7_slots_0 : decode cX7_slots 0 = .ok (.aload_n 0, 1) := by decide +kernel
theorem dX7_slots_1 : decode cX7_slots 1 = .ok (.iload_n 1, 1) := by decide +kernel
theorem dX7_slots_2 : decode cX7_slots 2 = .ok (.invokevirtual 53, 3) := by decide +kernel
theorem dX7_minds_0 : decode cX7_minds 0 = .ok (.aload_n 0, 1) := by decide +kernel
theorem dX7_minds_1 : decode cX7_minds 1 = .ok (.iload_n 1, 1) := by decide +kernel
theorem dX7_minds_2 : decode cX7_minds 2 = .ok (.invokevirtual 53, 3) := by decide +kernel
theorem dX7_setImmune_0 : decode cX7_setImmune 0 = .ok (.iload_n 3, 1) := by decide +kernel
theorem dX7_setImmune_1 : decode cX7_setImmune 1 = .ok (.ifCond .eq 7, 3) := by decide +kernel
theorem dX7_setImmune_4 : decode cX7_setImmune 4 = .ok (.iconst 1, 1) := by decide +kernel
theorem dX7_setImmune_5 : decode cX7_setImmune 5 = .ok (.goto 4, 3) := by decide +kernel
theorem dX7_setImmune_8 : decode cX7_setImmune 8 = .ok (.iconst 0, 1) := by decide +kernel
theorem dX7_setImmune_9 : decode cX7_setImmune 9 = .ok (.istore 4, 2) := by decide +kernel
theorem dX7_setImmune_11 : decode cX7_setImmune 11 = .ok (.aload_n 0, 1) := by decide +kernel
theorem dX7_setImmune_12 : decode cX7_setImmune 12 = .ok (.getfield 10, 3) := by decide +kernel
theorem dX7_setImmune_15 : decode cX7_setImmune 15 = .ok (.iload_n 1, 1) := by decide +kernel
theorem dX7_setImmune_16 : decode cX7_setImmune 16 = .ok (.iload_n 2, 1) := by decide +kernel
theorem dX7_setImmune_17 : decode cX7_setImmune 17 = .ok (.iload 4, 2) := by decide +kernel
theorem dX7_setImmune_19 : decode cX7_setImmune 19 = .ok (.invokevirtual 100, 3) := by decide +kernel
theorem dX7_setImmune_22 : decode cX7_setImmune 22 = .ok (.invokestatic 30, 3) := by decide +kernel
theorem dX7_endSource_0 : decode cX7_endSource 0 = .ok (.aload_n 0, 1) := by decide +kernel
theorem dX7_endSource_1 : decode cX7_endSource 1 = .ok (.getfield 10, 3) := by decide +kernel
theorem dX7_endSource_4 : decode cX7_endSource 4 = .ok (.iload_n 1, 1) := by decide +kernel
theorem dX7_endSource_5 : decode cX7_endSource 5 = .ok (.invokevirtual 97, 3) := by decide +kernel
theorem dX7_endSource_8 : decode cX7_endSource 8 = .ok (.invokestatic 30, 3) := by decide +kernel
theorem dX7_isLive_0 : decode cX7_isLive 0 = .ok (.aload_n 0, 1) := by decide +kernel
theorem dX7_isLive_1 : decode cX7_isLive 1 = .ok (.getfield 10, 3) := by decide +kernel
theorem dX7_isLive_4 : decode cX7_isLive 4 = .ok (.getfield 103, 3) := by decide +kernel
theorem dX7_isLive_7 : decode cX7_isLive 7 = .ok (.iload_n 1, 1) := by decide +kernel
theorem dX7_isLive_8 : decode cX7_isLive 8 = .ok (.invokevirtual 107, 3) := by decide +kernel
theorem dX7_isLive_11 : decode cX7_isLive 11 = .ok (.ifCond .ne 13, 3) := by decide +kernel
theorem dX7_isLive_14 : decode cX7_isLive 14 = .ok (.new 113, 3) := by decide +kernel
theorem dX7_isLive_17 : decode cX7_isLive 17 = .ok (.dup, 1) := by decide +kernel
theorem dX7_isLive_18 : decode cX7_isLive 18 = .ok (.ldc 115, 2) := by decide +kernel
theorem dX7_isLive_20 : decode cX7_isLive 20 = .ok (.invokespecial 117, 3) := by decide +kernel
theorem dX7_isLive_23 : decode cX7_isLive 23 = .ok (.athrow, 1) := by decide +kernel
theorem dX7_sources_0 : decode cX7_sources 0 = .ok (.aload_n 0, 1) := by decide +kernel
theorem dX7_sources_1 : decode cX7_sources 1 = .ok (.getfield 10, 3) := by decide +kernel
theorem dX7_sources_4 : decode cX7_sources 4 = .ok (.getfield 103, 3) := by decide +kernel
theorem dX7_sources_7 : decode cX7_sources 7 = .ok (.getfield 138, 3) := by decide +kernel
theorem dX7_sources_10 : decode cX7_sources 10 = .ok (.ireturn, 1) := by decide +kernel
theorem dX7_dice_0 : decode cX7_dice 0 = .ok (.aload_n 0, 1) := by decide +kernel
theorem dX7_dice_1 : decode cX7_dice 1 = .ok (.getfield 10, 3) := by decide +kernel
theorem dX7_dice_4 : decode cX7_dice 4 = .ok (.getfield 144, 3) := by decide +kernel
theorem dX7_dice_7 : decode cX7_dice 7 = .ok (.invokevirtual 148, 3) := by decide +kernel
theorem dX7_dice_10 : decode cX7_dice 10 = .ok (.ireturn, 1) := by decide +kernel
theorem dX7_round_0 : decode cX7_round 0 = .ok (.aload_n 0, 1) := by decide +kernel
theorem dX7_round_1 : decode cX7_round 1 = .ok (.getfield 10, 3) := by decide +kernel
theorem dX7_round_4 : decode cX7_round 4 = .ok (.getfield 175, 3) := by decide +kernel
theorem dX7_round_7 : decode cX7_round 7 = .ok (.ireturn, 1) := by decide +kernel
theorem dX7_kept_0 : decode cX7_kept 0 = .ok (.aload_n 0, 1) := by decide +kernel
theorem dX7_kept_1 : decode cX7_kept 1 = .ok (.getfield 22, 3) := by decide +kernel
theorem dX7_kept_4 : decode cX7_kept 4 = .ok (.getfield 212, 3) := by decide +kernel
theorem dX7_kept_7 : decode cX7_kept 7 = .ok (.ireturn, 1) := by decide +kernel
theorem dX7_harmDone_0 : decode cX7_harmDone 0 = .ok (.aload_n 0, 1) := by decide +kernel
theorem dX7_harmDone_1 : decode cX7_harmDone 1 = .ok (.getfield 10, 3) := by decide +kernel
theorem dX7_harmDone_4 : decode cX7_harmDone 4 = .ok (.getfield 231, 3) := by decide +kernel
theorem dX7_harmDone_7 : decode cX7_harmDone 7 = .ok (.lreturn, 1) := by decide +kernel
theorem dX7_tellDie_0 : decode cX7_tellDie 0 = .ok (.aload_n 0, 1) := by decide +kernel
theorem dX7_tellDie_1 : decode cX7_tellDie 1 = .ok (.getfield 10, 3) := by decide +kernel
theorem dX7_tellDie_4 : decode cX7_tellDie 4 = .ok (.iload_n 1, 1) := by decide +kernel
theorem dX7_tellDie_5 : decode cX7_tellDie 5 = .ok (.invokevirtual 141, 3) := by decide +kernel
theorem dX7_tellDie_8 : decode cX7_tellDie 8 = .ok (.invokestatic 30, 3) := by decide +kernel
theorem dX7_tellDie_11 : decode cX7_tellDie 11 = .ok (.istore_n 2, 1) := by decide +kernel
theorem dX7_tellDie_12 : decode cX7_tellDie 12 = .ok (.aload_n 0, 1) := by decide +kernel
theorem dX7_tellDie_13 : decode cX7_tellDie 13 = .ok (.getfield 22, 3) := by decide +kernel
theorem dX7_tellDie_16 : decode cX7_tellDie 16 = .ok (.bipush 9, 2) := by decide +kernel
theorem dX7_tellDie_18 : decode cX7_tellDie 18 = .ok (.iload_n 1, 1) := by decide +kernel
theorem dX7_tellDie_19 : decode cX7_tellDie 19 = .ok (.iconst 0, 1) := by decide +kernel
theorem dX7_tellDie_20 : decode cX7_tellDie 20 = .ok (.iconst 0, 1) := by decide +kernel
theorem dX7_tellDie_21 : decode cX7_tellDie 21 = .ok (.iconst 0, 1) := by decide +kernel
theorem dX7_tellDie_22 : decode cX7_tellDie 22 = .ok (.iconst 0, 1) := by decide +kernel
theorem dX7_tellDie_23 : decode cX7_tellDie 23 = .ok (.iconst 0, 1) := by decide +kernel
theorem dX7_tellDie_24 : decode cX7_tellDie 24 = .ok (.invokevirtual 34, 3) := by decide +kernel
theorem dX7_tellDie_27 : decode cX7_tellDie 27 = .ok (.iload_n 2, 1) := by decide +kernel
theorem dX7_tellDie_28 : decode cX7_tellDie 28 = .ok (.ireturn, 1) := by decide +kernel
theorem dX7_begin_0 : decode cX7_begin 0 = .ok (.aload_n 0, 1) := by decide +kernel
theorem dX7_begin_1 : decode cX7_begin 1 = .ok (.getfield 10, 3) := by decide +kernel
theorem dX7_begin_4 : decode cX7_begin 4 = .ok (.invokevirtual 154, 3) := by decide +kernel
theorem dX7_begin_7 : decode cX7_begin 7 = .ok (.invokestatic 30, 3) := by decide +kernel
theorem dX7_endTurn_0 : decode cX7_endTurn 0 = .ok (.aload_n 0, 1) := by decide +kernel
theorem dX7_endTurn_1 : decode cX7_endTurn 1 = .ok (.getfield 10, 3) := by decide +kernel
theorem dX7_endTurn_4 : decode cX7_endTurn 4 = .ok (.invokevirtual 157, 3) := by decide +kernel
theorem dX7_endTurn_7 : decode cX7_endTurn 7 = .ok (.invokestatic 30, 3) := by decide +kernel
theorem dX7_rest_0 : decode cX7_rest 0 = .ok (.aload_n 0, 1) := by decide +kernel
theorem dX7_rest_1 : decode cX7_rest 1 = .ok (.getfield 10, 3) := by decide +kernel
theorem dX7_rest_4 : decode cX7_rest 4 = .ok (.invokevirtual 160, 3) := by decide +kernel
theorem dX7_rest_7 : decode cX7_rest 7 = .ok (.invokestatic 30, 3) := by decide +kernel
theorem dX7_turn_0 : decode cX7_turn 0 = .ok (.aload_n 0, 1) := by decide +kernel
theorem dX7_turn_1 : decode cX7_turn 1 = .ok (.getfield 10, 3) := by decide +kernel
theorem dX7_turn_4 : decode cX7_turn 4 = .ok (.invokevirtual 163, 3) := by decide +kernel
theorem dX7_turn_7 : decode cX7_turn 7 = .ok (.ifCond .ne 13, 3) := by decide +kernel
theorem dX7_turn_10 : decode cX7_turn 10 = .ok (.new 167, 3) := by decide +kernel
theorem dX7_turn_13 : decode cX7_turn 13 = .ok (.dup, 1) := by decide +kernel
theorem dX7_turn_14 : decode cX7_turn 14 = .ok (.ldc 169, 2) := by decide +kernel
theorem dX7_turn_16 : decode cX7_turn 16 = .ok (.invokespecial 171, 3) := by decide +kernel
theorem dX7_turn_19 : decode cX7_turn 19 = .ok (.athrow, 1) := by decide +kernel
theorem dX7_steps_0 : decode cX7_steps 0 = .ok (.aload_n 0, 1) := by decide +kernel
theorem dX7_steps_1 : decode cX7_steps 1 = .ok (.getfield 10, 3) := by decide +kernel
theorem dX7_steps_4 : decode cX7_steps 4 = .ok (.invokevirtual 163, 3) := by decide +kernel
theorem dX7_steps_7 : decode cX7_steps 7 = .ok (.ifCond .ne 13, 3) := by decide +kernel
theorem dX7_steps_10 : decode cX7_steps 10 = .ok (.new 167, 3) := by decide +kernel
theorem dX7_steps_13 : decode cX7_steps 13 = .ok (.dup, 1) := by decide +kernel
theorem dX7_steps_14 : decode cX7_steps 14 = .ok (.ldc 169, 2) := by decide +kernel
theorem dX7_steps_16 : decode cX7_steps 16 = .ok (.invokespecial 171, 3) := by decide +kernel
theorem dX7_steps_19 : decode cX7_steps 19 = .ok (.athrow, 1) := by decide +kernel
theorem dX7_stand_0 : decode cX7_stand 0 = .ok (.aload_n 0, 1) := by decide +kernel
theorem dX7_stand_1 : decode cX7_stand 1 = .ok (.getfield 10, 3) := by decide +kernel
theorem dX7_stand_4 : decode cX7_stand 4 = .ok (.invokevirtual 195, 3) := by decide +kernel
theorem dX7_stand_7 : decode cX7_stand 7 = .ok (.invokestatic 30, 3) := by decide +kernel
theorem dX7_step_0 : decode cX7_step 0 = .ok (.aload_n 0, 1) := by decide +kernel
theorem dX7_step_1 : decode cX7_step 1 = .ok (.getfield 10, 3) := by decide +kernel
theorem dX7_step_4 : decode cX7_step 4 = .ok (.iload_n 1, 1) := by decide +kernel
theorem dX7_step_5 : decode cX7_step 5 = .ok (.iload_n 2, 1) := by decide +kernel
theorem dX7_step_6 : decode cX7_step 6 = .ok (.invokevirtual 192, 3) := by decide +kernel
theorem dX7_step_9 : decode cX7_step 9 = .ok (.invokestatic 30, 3) := by decide +kernel
theorem dX7_ready_0 : decode cX7_ready 0 = .ok (.aload_n 0, 1) := by decide +kernel
theorem dX7_ready_1 : decode cX7_ready 1 = .ok (.getfield 10, 3) := by decide +kernel
theorem dX7_ready_4 : decode cX7_ready 4 = .ok (.iload_n 1, 1) := by decide +kernel
theorem dX7_ready_5 : decode cX7_ready 5 = .ok (.iload_n 2, 1) := by decide +kernel
theorem dX7_ready_6 : decode cX7_ready 6 = .ok (.invokevirtual 198, 3) := by decide +kernel
theorem dX7_ready_9 : decode cX7_ready 9 = .ok (.invokestatic 30, 3) := by decide +kernel
theorem dX7_cast_0 : decode cX7_cast 0 = .ok (.aload_n 0, 1) := by decide +kernel
theorem dX7_cast_1 : decode cX7_cast 1 = .ok (.getfield 10, 3) := by decide +kernel
theorem dX7_cast_4 : decode cX7_cast 4 = .ok (.iload_n 1, 1) := by decide +kernel
theorem dX7_cast_5 : decode cX7_cast 5 = .ok (.iload_n 2, 1) := by decide +kernel
theorem dX7_cast_6 : decode cX7_cast 6 = .ok (.iload_n 3, 1) := by decide +kernel
theorem dX7_cast_7 : decode cX7_cast 7 = .ok (.invokevirtual 202, 3) := by decide +kernel
theorem dX7_cast_10 : decode cX7_cast 10 = .ok (.invokestatic 30, 3) := by decide +kernel
theorem dX7_again_0 : decode cX7_again 0 = .ok (.iload_n 1, 1) := by decide +kernel
theorem dX7_again_1 : decode cX7_again 1 = .ok (.ifCond .lt 17, 3) := by decide +kernel
theorem dX7_again_4 : decode cX7_again 4 = .ok (.iload_n 1, 1) := by decide +kernel
theorem dX7_again_5 : decode cX7_again 5 = .ok (.aload_n 0, 1) := by decide +kernel
theorem dX7_again_6 : decode cX7_again 6 = .ok (.getfield 10, 3) := by decide +kernel
theorem dX7_again_9 : decode cX7_again 9 = .ok (.getfield 144, 3) := by decide +kernel
theorem dX7_again_12 : decode cX7_again 12 = .ok (.getfield 213, 3) := by decide +kernel
theorem dX7_again_15 : decode cX7_again 15 = .ok (.if_icmp .lt 13, 3) := by decide +kernel
theorem dX7_again_18 : decode cX7_again 18 = .ok (.new 113, 3) := by decide +kernel
theorem dX7_again_21 : decode cX7_again 21 = .ok (.dup, 1) := by decide +kernel
theorem dX7_again_22 : decode cX7_again 22 = .ok (.ldc 216, 2) := by decide +kernel
theorem dX7_again_24 : decode cX7_again 24 = .ok (.invokespecial 117, 3) := by decide +kernel
theorem dX7_again_27 : decode cX7_again 27 = .ok (.athrow, 1) := by decide +kernel
theorem dX7_hitShare_0 : decode cX7_hitShare 0 = .ok (.aload_n 0, 1) := by decide +kernel
theorem dX7_hitShare_1 : decode cX7_hitShare 1 = .ok (.getfield 10, 3) := by decide +kernel
theorem dX7_hitShare_4 : decode cX7_hitShare 4 = .ok (.getfield 235, 3) := by decide +kernel
theorem dX7_hitShare_7 : decode cX7_hitShare 7 = .ok (.ifCond .ne 13, 3) := by decide +kernel
theorem dX7_hitShare_10 : decode cX7_hitShare 10 = .ok (.new 238, 3) := by decide +kernel
theorem dX7_hitShare_13 : decode cX7_hitShare 13 = .ok (.dup, 1) := by decide +kernel
theorem dX7_hitShare_14 : decode cX7_hitShare 14 = .ok (.ldc 240, 2) := by decide +kernel
theorem dX7_hitShare_16 : decode cX7_hitShare 16 = .ok (.invokespecial 242, 3) := by decide +kernel
theorem dX7_hitShare_19 : decode cX7_hitShare 19 = .ok (.athrow, 1) := by decide +kernel
theorem dX7_meanLife_0 : decode cX7_meanLife 0 = .ok (.aload_n 0, 1) := by decide +kernel
theorem dX7_meanLife_1 : decode cX7_meanLife 1 = .ok (.getfield 10, 3) := by decide +kernel
theorem dX7_meanLife_4 : decode cX7_meanLife 4 = .ok (.getfield 246, 3) := by decide +kernel
theorem dX7_meanLife_7 : decode cX7_meanLife 7 = .ok (.ifCond .ne 13, 3) := by decide +kernel
theorem dX7_meanLife_10 : decode cX7_meanLife 10 = .ok (.new 238, 3) := by decide +kernel
theorem dX7_meanLife_13 : decode cX7_meanLife 13 = .ok (.dup, 1) := by decide +kernel
theorem dX7_meanLife_14 : decode cX7_meanLife 14 = .ok (.ldc 249, 2) := by decide +kernel
theorem dX7_meanLife_16 : decode cX7_meanLife 16 = .ok (.invokespecial 242, 3) := by decide +kernel
theorem dX7_meanLife_19 : decode cX7_meanLife 19 = .ok (.athrow, 1) := by decide +kernel
theorem dX7_isSound_0 : decode cX7_isSound 0 = .ok (.aload_n 0, 1) := by decide +kernel
theorem dX7_isSound_1 : decode cX7_isSound 1 = .ok (.getfield 10, 3) := by decide +kernel
theorem dX7_isSound_4 : decode cX7_isSound 4 = .ok (.invokevirtual 251, 3) := by decide +kernel
theorem dX7_isSound_7 : decode cX7_isSound 7 = .ok (.ifCond .eq 26, 3) := by decide +kernel
theorem dX7_isSound_10 : decode cX7_isSound 10 = .ok (.aload_n 0, 1) := by decide +kernel
theorem dX7_isSound_11 : decode cX7_isSound 11 = .ok (.getfield 10, 3) := by decide +kernel
theorem dX7_isSound_14 : decode cX7_isSound 14 = .ok (.getfield 103, 3) := by decide +kernel
theorem dX7_isSound_17 : decode cX7_isSound 17 = .ok (.invokevirtual 254, 3) := by decide +kernel
theorem dX7_isSound_20 : decode cX7_isSound 20 = .ok (.ifCond .eq 13, 3) := by decide +kernel
theorem dX7_isSound_23 : decode cX7_isSound 23 = .ok (.aload_n 0, 1) := by decide +kernel
theorem dX7_isSound_24 : decode cX7_isSound 24 = .ok (.getfield 10, 3) := by decide +kernel
theorem dX7_isSound_27 : decode cX7_isSound 27 = .ok (.invokevirtual 257, 3) := by decide +kernel
theorem dX7_isSound_30 : decode cX7_isSound 30 = .ok (.ifCond .ne 5, 3) := by decide +kernel
theorem dX7_isSound_35 : decode cX7_isSound 35 = .ok (.aload_n 0, 1) := by decide +kernel
theorem dX7_isSound_36 : decode cX7_isSound 36 = .ok (.getfield 22, 3) := by decide +kernel
theorem dX7_isSound_39 : decode cX7_isSound 39 = .ok (.aload_n 0, 1) := by decide +kernel
theorem dX7_isSound_40 : decode cX7_isSound 40 = .ok (.getfield 16, 3) := by decide +kernel
theorem dX7_isSound_43 : decode cX7_isSound 43 = .ok (.iconst (-1), 1) := by decide +kernel
theorem dX7_isSound_44 : decode cX7_isSound 44 = .ok (.iconst 0, 1) := by decide +kernel
theorem dX7_isSound_45 : decode cX7_isSound 45 = .ok (.invokevirtual 220, 3) := by decide +kernel
theorem dX7_isSound_48 : decode cX7_isSound 48 = .ok (.aload_n 0, 1) := by decide +kernel
theorem dX7_isSound_49 : decode cX7_isSound 49 = .ok (.getfield 10, 3) := by decide +kernel
theorem dX7_isSound_52 : decode cX7_isSound 52 = .ok (.aload_n 0, 1) := by decide +kernel
theorem dX7_isSound_53 : decode cX7_isSound 53 = .ok (.getfield 16, 3) := by decide +kernel
theorem dX7_isSound_56 : decode cX7_isSound 56 = .ok (.invokevirtual 260, 3) := by decide +kernel
theorem dX7_isSound_59 : decode cX7_isSound 59 = .ok (.ireturn, 1) := by decide +kernel
theorem dX7_init_0 : decode cX7_init 0 = .ok (.aload_n 0, 1) := by decide +kernel
theorem dX7_init_1 : decode cX7_init 1 = .ok (.invokespecial 1, 3) := by decide +kernel
theorem dX7_init_4 : decode cX7_init 4 = .ok (.aload_n 0, 1) := by decide +kernel
theorem dX7_init_5 : decode cX7_init 5 = .ok (.new 7, 3) := by decide +kernel
theorem dX7_init_8 : decode cX7_init 8 = .ok (.dup, 1) := by decide +kernel
theorem dX7_init_9 : decode cX7_init 9 = .ok (.invokespecial 9, 3) := by decide +kernel
theorem dX7_init_12 : decode cX7_init 12 = .ok (.putfield 10, 3) := by decide +kernel
theorem dX7_init_15 : decode cX7_init 15 = .ok (.aload_n 0, 1) := by decide +kernel
theorem dX7_init_16 : decode cX7_init 16 = .ok (.new 7, 3) := by decide +kernel
theorem dX7_init_19 : decode cX7_init 19 = .ok (.dup, 1) := by decide +kernel
theorem dX7_init_20 : decode cX7_init 20 = .ok (.invokespecial 9, 3) := by decide +kernel
theorem dX7_init_23 : decode cX7_init 23 = .ok (.putfield 16, 3) := by decide +kernel
theorem dX7_init_26 : decode cX7_init 26 = .ok (.aload_n 0, 1) := by decide +kernel
theorem dX7_init_27 : decode cX7_init 27 = .ok (.new 19, 3) := by decide +kernel
theorem dX7_init_30 : decode cX7_init 30 = .ok (.dup, 1) := by decide +kernel
theorem dX7_init_31 : decode cX7_init 31 = .ok (.invokespecial 21, 3) := by decide +kernel
theorem dX7_init_34 : decode cX7_init 34 = .ok (.putfield 22, 3) := by decide +kernel
theorem dX7_init_37 : decode cX7_init 37 = .ok (.return_, 1) := by decide +kernel
set_option maxHeartbeats 4000000 in
set_option maxRecDepth 100000 in
theorem c_X6_playOn (l : Launch) (hfl : l.stackTraces = false) (g : GP) (k0 : Nat) (kr : Nat) (t0 : Nat) (th : Nat) (ts : Nat) (tg : Nat) (td : Nat) (tr : Nat) (tw : Nat) (tc : Nat) (tv : Nat) (fc : Nat → Int32) (n1 : Int32) (n2 : Int32)  : CV l yX6_playOn (wG yX6_playOn cX6_playOn 12 (Option.none : Option Jvm.ClassFile.FieldType)) (LV 4 0 0) g [.ref k0, .ref t0, .int n1, .int n2] ([(k0, .inr (7, [.ref kr, .int 0])), (t0, .inr (6, [.ref th, .ref ts, .ref tg, .ref td, .int 0, .ref tr, .int (-1), .int 0, .int 0, .int 0, .long 0, .int 0, .int 0])), (ts, .inr (5, [.ref th, .ref tw, .int 0])), (tg, .inr (3, [.ref tc])), (tc, .inl (g.2.1 0, 64, .inl fc)), (td, .inr (2, [.ref tv, .int 0, .int 0]))]) (fun (u : va_W) => u = [(k0, .inr (7, [.ref kr, .int 0])), (t0, .inr (6, [.ref th, .ref ts, .ref tg, .ref td, .int 0, .ref tr, .int (-1), .int 0, .int 0, .int 0, .long 0, .int 0, .int 0]))]) := by
  intro sz
  refine Met.ofW (cc := cX6_playOn) (maxL := 12) (ret := (Option.none : Option Jvm.ClassFile.FieldType)) (by decide) rfl ?_
  intro p e s m args below meth c s₁ B hml hv
  obtain ⟨rfl, hsz, hP, hK, hD0, hT0⟩ := hv
  have hx := B.exec
  have hb := B.bytes
  have hr := B.returns
  have hts := atoms_spec (ws := (wG yX6_playOn cX6_playOn 12 (Option.none : Option Jvm.ClassFile.FieldType))) B.pre
  have htg : ∀ w ∈ G9, w.before _ s = true := fun w h => hts w (List.mem_cons_of_mem _ h)
  have hown : s.vm.findClass "HeroTable$Transcript" = some m.cls := findClass_of_methodNamed B.named
  have hlocks := B.notSynchronized
  subst hsz
  have hD := hD0.self (sz := s.heap.size)
  have hT := hT0
  clear hT0
  generalize hAe : va_A [(k0, .inr (7, [.ref kr, .int 0])), (t0, .inr (6, [.ref th, .ref ts, .ref tg, .ref td, .int 0, .ref tr, .int (-1), .int 0, .int 0, .int 0, .long 0, .int 0, .int 0])), (ts, .inr (5, [.ref th, .ref tw, .int 0])), (tg, .inr (3, [.ref tc])), (tc, .inl (g.2.1 0, 64, .inl fc)), (td, .inr (2, [.ref tv, .int 0, .int 0]))] s.heap.size = A at hD hT ⊢
  have hA : ∀ q : Nat, s.heap.size ≤ q → A q := fun q h => by rw [← hAe]; exact Or.inr h
  obtain ⟨H, hH0⟩ : ∃ H, H = s.heap := ⟨_, rfl⟩
  have hS : va_S A s.heap H [] := by rw [hH0]; exact va_S.rf
  have hP : va_P g.1 CLS [(k0, .inr (7, [.ref kr, .int 0])), (t0, .inr (6, [.ref th, .ref ts, .ref tg, .ref td, .int 0, .ref tr, .int (-1), .int 0, .int 0, .int 0, .long 0, .int 0, .int 0])), (ts, .inr (5, [.ref th, .ref tw, .int 0])), (tg, .inr (3, [.ref tc])), (tc, .inl (g.2.1 0, 64, .inl fc)), (td, .inr (2, [.ref tv, .int 0, .int 0]))] H := by rw [hH0]; exact hP
  rw [← hH0]
  have hl := lv_entry ([.ref k0, .ref t0, .int n1, .int n2]) (n := 12) (Nat.le_of_ble_eq_true rfl)
  rw [lg_entry_eq]
  generalize (lg_sl ([.ref k0, .ref t0, .int n1, .int n2]) ++ List.replicate (12 - (lg_sl ([.ref k0, .ref t0, .int n1, .int n2])).length) Slot.unset).toArray = ls at hl ⊢
  have hl : lv_has ls 12 [(0, .ref k0), (1, .ref t0), (2, .int n1), (3, .int n2)] := hl
  refine lv_aload_n hx hb dX6_playOn_0 rfl (lv_at hl 1 rfl) ?_
  have hPc := hP.sub (ws' := [(t0, .inr (6, [.ref th, .ref ts, .ref tg, .ref td, .int 0, .ref tr, .int (-1), .int 0, .int 0, .int 0, .long 0, .int 0, .int 0])), (ts, .inr (5, [.ref th, .ref tw, .int 0])), (tg, .inr (3, [.ref tc])), (tc, .inl (g.2.1 0, 64, .inl fc)), (td, .inr (2, [.ref tv, .int 0, .int 0]))]) [1, 2, 3, 4, 5] rfl
  have hDc := hD.sub (ws' := [(t0, .inr (6, [.ref th, .ref ts, .ref tg, .ref td, .int 0, .ref tr, .int (-1), .int 0, .int 0, .int 0, .long 0, .int 0, .int 0])), (ts, .inr (5, [.ref th, .ref tw, .int 0])), (tg, .inr (3, [.ref tc])), (tc, .inl (g.2.1 0, 64, .inl fc)), (td, .inr (2, [.ref tv, .int 0, .int 0]))]) [1, 2, 3, 4, 5] (by decide) rfl
  have hFc := va_free (wc := [(t0, .inr (6, [.ref th, .ref ts, .ref tg, .ref td, .int 0, .ref tr, .int (-1), .int 0, .int 0, .int 0, .long 0, .int 0, .int 0])), (ts, .inr (5, [.ref th, .ref tw, .int 0])), (tg, .inr (3, [.ref tc])), (tc, .inl (g.2.1 0, 64, .inl fc)), (td, .inr (2, [.ref tv, .int 0, .int 0]))]) hD hS hA [1, 2, 3, 4, 5] rfl
  refine q_cv (wr := [(k0, .inr (7, [.ref kr, .int 0]))]) (va_runV (As := []) (rest := []) ⟨hx, hb, hml, hown, htg⟩ (c_X5_clear l hfl g t0 th ts tg td tr tw tc tv fc  H.size) ⟨(qB htg k380 k51 k377 ok_X5_clear rfl rfl ⟨Nat.le_of_ble_eq_true rfl, Nat.le_of_ble_eq_true rfl⟩), htg _ k378, htg _ k379⟩ ⟨(q_pre [.ref t0] hPc hDc hK hS hT hFc).1, va_recv hK hP (ci := 6) (q0 := 1) rfl rfl, (q_pre [.ref t0] hPc hDc hK hS hT hFc).2⟩ rfl rfl hl.1 rfl (lv_room (Nat.le_of_ble_eq_true rfl)) dX6_playOn_1 ⟨Nat.le_of_ble_eq_true rfl, Nat.le_of_ble_eq_true rfl⟩) hP hD hS hFc [1, 2, 3, 4, 5] [0] rfl rfl (by decide) (by decide) (fun u9 H locs hw hP hD hS => ?_)
  try dsimp only at hw
  rcases hw with ⟨f_1, c_2, rfl⟩
  have hP : va_P g.1 CLS [(k0, .inr (7, [.ref kr, .int 0])), (t0, .inr (6, [.ref th, .ref ts, .ref tg, .ref td, .int 0, .ref tr, .int (-1), .int 0, .int 0, .int 0, .long 0, .int 0, .int 0])), (ts, .inr (5, [.ref th, .ref tw, .int 0])), (tg, .inr (3, [.ref tc])), (tc, .inl (g.2.1 0, 64, .inl f_1)), (td, .inr (2, [.ref tv, .int 0, .int 0]))] H := hP
  have hD : va_D A [(k0, .inr (7, [.ref kr, .int 0])), (t0, .inr (6, [.ref th, .ref ts, .ref tg, .ref td, .int 0, .ref tr, .int (-1), .int 0, .int 0, .int 0, .long 0, .int 0, .int 0])), (ts, .inr (5, [.ref th, .ref tw, .int 0])), (tg, .inr (3, [.ref tc])), (tc, .inl (g.2.1 0, 64, .inl f_1)), (td, .inr (2, [.ref tv, .int 0, .int 0]))] := hD
  refine W.widen (k := 0) (n := 0) (Nat.le_of_ble_eq_true rfl) (Nat.le_of_ble_eq_true rfl) ?_
  refine lv_iconst (v := 0) hx hb dX6_playOn_4 (by decide) ?_
  refine lv_istore (lv' := [(4, .int 0), (0, .ref k0), (1, .ref t0), (2, .int n1), (3, .int n2)]) hx hb dX6_playOn_5 hl (by decide) rfl (fun ls hl => ?_)
  refine lv_iconst (v := 0) hx hb dX6_playOn_7 (by decide) ?_
  refine lv_istore (lv' := [(5, .int 0), (4, .int 0), (0, .ref k0), (1, .ref t0), (2, .int n1), (3, .int n2)]) hx hb dX6_playOn_8 hl (by decide) rfl (fun ls hl => ?_)
  refine lv_iload hx hb dX6_playOn_10 (lv_at hl 0 rfl) ?_
  refine lv_aload_n hx hb dX6_playOn_12 rfl (lv_at hl 2 rfl) ?_
  refine va_get (D := g.1) (ci := 7) (v := .int 0) (C := RX6) (T := TX6) (N := 2) hx hb htg inG_X6 hown hK hP 0 rfl rfl 1 (by decide) (htg _ k303) (fun _ h9 => h9) rfl dX6_playOn_13 ?_
  refine lv_icmp_ge (tgt := 434) hx hb dX6_playOn_16 (by decide) (fun c_3 => ?_) (fun c_3 => absurd (by decide) c_3)
  have hP9 := hP.sub (ws' := [(k0, .inr (7, [.ref kr, .int 0])), (t0, .inr (6, [.ref th, .ref ts, .ref tg, .ref td, .int 0, .ref tr, .int (-1), .int 0, .int 0, .int 0, .long 0, .int 0, .int 0]))]) [0, 1] rfl
  have hD9 := hD.sub (ws' := [(k0, .inr (7, [.ref kr, .int 0])), (t0, .inr (6, [.ref th, .ref ts, .ref tg, .ref td, .int 0, .ref tr, .int (-1), .int 0, .int 0, .int 0, .long 0, .int 0, .int 0]))]) [0, 1] (by decide) rfl
  refine W.widen (k := 0) (n := 0) (Nat.le_of_ble_eq_true rfl) (Nat.le_of_ble_eq_true rfl) ?_
  exact W.vret hx hb hr (fun t ht hW => ⟨⟨[(k0, .inr (7, [.ref kr, .int 0])), (t0, .inr (6, [.ref th, .ref ts, .ref tg, .ref td, .int 0, .ref tr, .int (-1), .int 0, .int 0, .int 0, .long 0, .int 0, .int 0]))], rfl, rfl, by rw [ht]; exact hP9, va_K.moved hW.alike hK, hD9⟩, hS.F ht⟩) hS.2.2 dX6_playOn_434

set_option maxHeartbeats 4000000 in
set_option maxRecDepth 100000 in
theorem c_ans_val (l : Launch) (hfl : l.stackTraces = false) (g : GP) (n1 : Int32) (hb0 : n1 ≠ -1000001) (hb1 : n1 ≠ -1000002) (hb2 : n1 ≠ -1000003) (hb3 : n1 ≠ -1000004) (hb4 : n1 ≠ -1000005) : CI l yX7_answered (wG yX7_answered cX7_answered 1 (Option.some Jvm.ClassFile.FieldType.int)) (LV 2 0 0) g [.int n1] ([]) (fun (r : Int32) (u : va_W) => r = n1 ∧ u = []) := by
  intro sz
  refine Met.ofW (cc := cX7_answered) (maxL := 1) (ret := (Option.some Jvm.ClassFile.FieldType.int)) (by decide) rfl ?_
  intro p e s m args below meth c s₁ B hml hv
  obtain ⟨rfl, hsz, hP, hK, hD0, hT0⟩ := hv
  have hx := B.exec
  have hb := B.bytes
  have hr := B.returns
  have hts := atoms_spec (ws := (wG yX7_answered cX7_answered 1 (Option.some Jvm.ClassFile.FieldType.int))) B.pre
  have htg : ∀ w ∈ G9, w.before _ s = true := fun w h => hts w (List.mem_cons_of_mem _ h)
  have hown : s.vm.findClass "HeroTable" = some m.cls := findClass_of_methodNamed B.named
  have hlocks := B.notSynchronized
  subst hsz
  have hD := hD0.self (sz := s.heap.size)
  have hT := hT0
  clear hT0
  generalize hAe : va_A [] s.heap.size = A at hD hT ⊢
  have hA : ∀ q : Nat, s.heap.size ≤ q → A q := fun q h => by rw [← hAe]; exact Or.inr h
  obtain ⟨H, hH0⟩ : ∃ H, H = s.heap := ⟨_, rfl⟩
  have hS : va_S A s.heap H [] := by rw [hH0]; exact va_S.rf
  have hP : va_P g.1 CLS [] H := by rw [hH0]; exact hP
  rw [← hH0]
  have hl := lv_entry ([.int n1]) (n := 1) (Nat.le_of_ble_eq_true rfl)
  rw [lg_entry_eq]
  generalize (lg_sl ([.int n1]) ++ List.replicate (1 - (lg_sl ([.int n1])).length) Slot.unset).toArray = ls at hl ⊢
  have hl : lv_has ls 1 [(0, .int n1)] := hl
  refine lv_iload_n hx hb dX7_answered_0 rfl (lv_at hl 0 rfl) ?_
  refine lv_ldcw (own := "HeroTable") (index := 264) (v := (-1000001)) hx hb hown (htg _ k828) dX7_answered_1 ?_
  refine lv_icmp_ne (tgt := 18) hx hb dX7_answered_4 (by decide) (fun c_1 => ?_) (fun c_1 => absurd c_1 (hb0))
  refine lv_iload_n hx hb dX7_answered_18 rfl (lv_at hl 0 rfl) ?_
  refine lv_ldcw (own := "HeroTable") (index := 267) (v := (-1000002)) hx hb hown (htg _ k900) dX7_answered_19 ?_
  refine lv_icmp_ne (tgt := 36) hx hb dX7_answered_22 (by decide) (fun c_2 => ?_) (fun c_2 => absurd c_2 (hb1))
  refine lv_iload_n hx hb dX7_answered_36 rfl (lv_at hl 0 rfl) ?_
  refine lv_ldcw (own := "HeroTable") (index := 270) (v := (-1000003)) hx hb hown (htg _ k917) dX7_answered_37 ?_
  refine lv_icmp_ne (tgt := 54) hx hb dX7_answered_40 (by decide) (fun c_3 => ?_) (fun c_3 => absurd c_3 (hb2))
  refine lv_iload_n hx hb dX7_answered_54 rfl (lv_at hl 0 rfl) ?_
  refine lv_ldcw (own := "HeroTable") (index := 276) (v := (-1000004)) hx hb hown (htg _ k934) dX7_answered_55 ?_
  refine lv_icmp_ne (tgt := 72) hx hb dX7_answered_58 (by decide) (fun c_4 => ?_) (fun c_4 => absurd c_4 (hb3))
  refine lv_iload_n hx hb dX7_answered_72 rfl (lv_at hl 0 rfl) ?_
  refine lv_ldcw (own := "HeroTable") (index := 282) (v := (-1000005)) hx hb hown (htg _ k951) dX7_answered_73 ?_
  refine lv_icmp_ne (tgt := 89) hx hb dX7_answered_76 (by decide) (fun c_5 => ?_) (fun c_5 => absurd c_5 (hb4))
  refine lv_iload_n hx hb dX7_answered_89 rfl (lv_at hl 0 rfl) ?_
  have hP9 := hP.sub (ws' := []) [] rfl
  have hD9 := hD.sub (ws' := []) [] (by decide) rfl
  refine W.widen (k := 0) (n := 0) (Nat.le_of_ble_eq_true rfl) (Nat.le_of_ble_eq_true rfl) ?_
  exact W.iret (v := n1) hx hb hr (fun t ht hW => ⟨⟨n1, [], rfl, ⟨rfl, rfl⟩, by rw [ht]; exact hP9, va_K.moved hW.alike hK, hD9⟩, hS.F ht⟩) hS.2.2 dX7_answered_90

set_option maxHeartbeats 4000000 in
set_option maxRecDepth 100000 in
theorem c_ans_1000001 (l : Launch) (hfl : l.stackTraces = false) (g : GP)   : XI l yX7_answered (wG yX7_answered cX7_answered 1 (Option.some Jvm.ClassFile.FieldType.int)) (LV 2 1 6) g [.int (-1000001)] ([]) (fun (r : Int32) (u : va_W) => False) (fun E : String => (E = "java/lang/IndexOutOfBoundsException")) := by
  intro sz
  refine vx_ofW (cc := cX7_answered) (maxL := 1) (ret := (Option.some Jvm.ClassFile.FieldType.int)) (by decide) rfl ?_
  intro p e s m args below meth c s₁ B hml hno hv
  have hnoX : ∀ (k : Nat), ∀ x ∈ c.exceptionTable.toList, covers x k = false := fun k x h => (hno x h).elim
  obtain ⟨rfl, hsz, hP, hK, hD0, hT0⟩ := hv
  have hx := B.exec
  have hb := B.bytes
  have hr := B.returns
  have hts := atoms_spec (ws := (wG yX7_answered cX7_answered 1 (Option.some Jvm.ClassFile.FieldType.int))) B.pre
  have htg : ∀ w ∈ G9, w.before _ s = true := fun w h => hts w (List.mem_cons_of_mem _ h)
  have hown : s.vm.findClass "HeroTable" = some m.cls := findClass_of_methodNamed B.named
  have hlocks := B.notSynchronized
  subst hsz
  have hD := hD0.self (sz := s.heap.size)
  have hT := hT0
  clear hT0
  generalize hAe : va_A [] s.heap.size = A at hD hT ⊢
  have hA : ∀ q : Nat, s.heap.size ≤ q → A q := fun q h => by rw [← hAe]; exact Or.inr h
  obtain ⟨H, hH0⟩ : ∃ H, H = s.heap := ⟨_, rfl⟩
  have hS : va_S A s.heap H [] := by rw [hH0]; exact va_S.rf
  have hP : va_P g.1 CLS [] H := by rw [hH0]; exact hP
  rw [← hH0]
  have hl := lv_entry ([.int (-1000001)]) (n := 1) (Nat.le_of_ble_eq_true rfl)
  rw [lg_entry_eq]
  generalize (lg_sl ([.int (-1000001)]) ++ List.replicate (1 - (lg_sl ([.int (-1000001)])).length) Slot.unset).toArray = ls at hl ⊢
  have hl : lv_has ls 1 [(0, .int (-1000001))] := hl
  refine lv_iload_n hx hb dX7_answered_0 rfl (lv_at hl 0 rfl) ?_
  refine lv_ldcw (own := "HeroTable") (index := 264) (v := (-1000001)) hx hb hown (htg _ k828) dX7_answered_1 ?_
  refine lv_icmp_ne (tgt := 18) hx hb dX7_answered_4 (by decide) (fun c_1 => absurd (by decide) c_1) (fun c_1 => ?_)
  exact vx_throwSW (own := "HeroTable") (cls := "java/lang/IndexOutOfBoundsException") (names := ["java/lang/RuntimeException", "java/lang/Exception"]) hx hb hfl hown rfl (by decide) (htg _ k829) (htg _ k67) (hT.2.1 _ (List.mem_of_getElem? (i := 7) rfl)) (hat_X7_117 htg hT.1) hgd_X7_117 hT.2.2.1.1 hT.2.2.1.2 hS (hl.1.trans hml.symm) dX7_answered_7 dX7_answered_10 dX7_answered_11 dX7_answered_14 dX7_answered_17 (hnoX _) (Nat.lt_of_succ_le (Nat.le_of_ble_eq_true rfl)) (Nat.le_of_ble_eq_true rfl) (Nat.le_of_ble_eq_true rfl) (Nat.le_of_ble_eq_true rfl) B.notSynchronized (fun t ht h1 h2 => ⟨"java/lang/IndexOutOfBoundsException", rfl, rfl, q_frameX hS h1 h2⟩) hS.2.2 (Nat.le_of_ble_eq_true rfl) (Nat.le_of_ble_eq_true rfl)

set_option maxHeartbeats 4000000 in
set_option maxRecDepth 100000 in
theorem c_ans_1000002 (l : Launch) (hfl : l.stackTraces = false) (g : GP)   : XI l yX7_answered (wG yX7_answered cX7_answered 1 (Option.some Jvm.ClassFile.FieldType.int)) (LV 2 1 6) g [.int (-1000002)] ([]) (fun (r : Int32) (u : va_W) => False) (fun E : String => (E = "java/lang/IllegalArgumentException")) := by
  intro sz
  refine vx_ofW (cc := cX7_answered) (maxL := 1) (ret := (Option.some Jvm.ClassFile.FieldType.int)) (by decide) rfl ?_
  intro p e s m args below meth c s₁ B hml hno hv
  have hnoX : ∀ (k : Nat), ∀ x ∈ c.exceptionTable.toList, covers x k = false := fun k x h => (hno x h).elim
  obtain ⟨rfl, hsz, hP, hK, hD0, hT0⟩ := hv
  have hx := B.exec
  have hb := B.bytes
  have hr := B.returns
  have hts := atoms_spec (ws := (wG yX7_answered cX7_answered 1 (Option.some Jvm.ClassFile.FieldType.int))) B.pre
  have htg : ∀ w ∈ G9, w.before _ s = true := fun w h => hts w (List.mem_cons_of_mem _ h)
  have hown : s.vm.findClass "HeroTable" = some m.cls := findClass_of_methodNamed B.named
  have hlocks := B.notSynchronized
  subst hsz
  have hD := hD0.self (sz := s.heap.size)
  have hT := hT0
  clear hT0
  generalize hAe : va_A [] s.heap.size = A at hD hT ⊢
  have hA : ∀ q : Nat, s.heap.size ≤ q → A q := fun q h => by rw [← hAe]; exact Or.inr h
  obtain ⟨H, hH0⟩ : ∃ H, H = s.heap := ⟨_, rfl⟩
  have hS : va_S A s.heap H [] := by rw [hH0]; exact va_S.rf
  have hP : va_P g.1 CLS [] H := by rw [hH0]; exact hP
  rw [← hH0]
  have hl := lv_entry ([.int (-1000002)]) (n := 1) (Nat.le_of_ble_eq_true rfl)
  rw [lg_entry_eq]
  generalize (lg_sl ([.int (-1000002)]) ++ List.replicate (1 - (lg_sl ([.int (-1000002)])).length) Slot.unset).toArray = ls at hl ⊢
  have hl : lv_has ls 1 [(0, .int (-1000002))] := hl
  refine lv_iload_n hx hb dX7_answered_0 rfl (lv_at hl 0 rfl) ?_
  refine lv_ldcw (own := "HeroTable") (index := 264) (v := (-1000001)) hx hb hown (htg _ k828) dX7_answered_1 ?_
  refine lv_icmp_ne (tgt := 18) hx hb dX7_answered_4 (by decide) (fun c_1 => ?_) (fun c_1 => absurd c_1 (by decide))
  refine lv_iload_n hx hb dX7_answered_18 rfl (lv_at hl 0 rfl) ?_
  refine lv_ldcw (own := "HeroTable") (index := 267) (v := (-1000002)) hx hb hown (htg _ k900) dX7_answered_19 ?_
  refine lv_icmp_ne (tgt := 36) hx hb dX7_answered_22 (by decide) (fun c_2 => absurd (by decide) c_2) (fun c_2 => ?_)
  exact vx_throwSW (own := "HeroTable") (cls := "java/lang/IllegalArgumentException") (names := ["java/lang/RuntimeException", "java/lang/Exception"]) hx hb hfl hown rfl (by decide) (htg _ k901) (htg _ k68) (hT.2.1 _ (List.mem_of_getElem? (i := 8) rfl)) (hat_X7_82 htg hT.1) hgd_X7_82 hT.2.2.1.1 hT.2.2.1.2 hS (hl.1.trans hml.symm) dX7_answered_25 dX7_answered_28 dX7_answered_29 dX7_answered_32 dX7_answered_35 (hnoX _) (Nat.lt_of_succ_le (Nat.le_of_ble_eq_true rfl)) (Nat.le_of_ble_eq_true rfl) (Nat.le_of_ble_eq_true rfl) (Nat.le_of_ble_eq_true rfl) B.notSynchronized (fun t ht h1 h2 => ⟨"java/lang/IllegalArgumentException", rfl, rfl, q_frameX hS h1 h2⟩) hS.2.2 (Nat.le_of_ble_eq_true rfl) (Nat.le_of_ble_eq_true rfl)

set_option maxHeartbeats 4000000 in
set_option maxRecDepth 100000 in
theorem c_ans_1000003 (l : Launch) (hfl : l.stackTraces = false) (g : GP)   : XI l yX7_answered (wG yX7_answered cX7_answered 1 (Option.some Jvm.ClassFile.FieldType.int)) (LV 2 1 6) g [.int (-1000003)] ([]) (fun (r : Int32) (u : va_W) => False) (fun E : String => (E = "java/lang/IllegalStateException")) := by
  intro sz
  refine vx_ofW (cc := cX7_answered) (maxL := 1) (ret := (Option.some Jvm.ClassFile.FieldType.int)) (by decide) rfl ?_
  intro p e s m args below meth c s₁ B hml hno hv
  have hnoX : ∀ (k : Nat), ∀ x ∈ c.exceptionTable.toList, covers x k = false := fun k x h => (hno x h).elim
  obtain ⟨rfl, hsz, hP, hK, hD0, hT0⟩ := hv
  have hx := B.exec
  have hb := B.bytes
  have hr := B.returns
  have hts := atoms_spec (ws := (wG yX7_answered cX7_answered 1 (Option.some Jvm.ClassFile.FieldType.int))) B.pre
  have htg : ∀ w ∈ G9, w.before _ s = true := fun w h => hts w (List.mem_cons_of_mem _ h)
  have hown : s.vm.findClass "HeroTable" = some m.cls := findClass_of_methodNamed B.named
  have hlocks := B.notSynchronized
  subst hsz
  have hD := hD0.self (sz := s.heap.size)
  have hT := hT0
  clear hT0
  generalize hAe : va_A [] s.heap.size = A at hD hT ⊢
  have hA : ∀ q : Nat, s.heap.size ≤ q → A q := fun q h => by rw [← hAe]; exact Or.inr h
  obtain ⟨H, hH0⟩ : ∃ H, H = s.heap := ⟨_, rfl⟩
  have hS : va_S A s.heap H [] := by rw [hH0]; exact va_S.rf
  have hP : va_P g.1 CLS [] H := by rw [hH0]; exact hP
  rw [← hH0]
  have hl := lv_entry ([.int (-1000003)]) (n := 1) (Nat.le_of_ble_eq_true rfl)
  rw [lg_entry_eq]
  generalize (lg_sl ([.int (-1000003)]) ++ List.replicate (1 - (lg_sl ([.int (-1000003)])).length) Slot.unset).toArray = ls at hl ⊢
  have hl : lv_has ls 1 [(0, .int (-1000003))] := hl
  refine lv_iload_n hx hb dX7_answered_0 rfl (lv_at hl 0 rfl) ?_
  refine lv_ldcw (own := "HeroTable") (index := 264) (v := (-1000001)) hx hb hown (htg _ k828) dX7_answered_1 ?_
  refine lv_icmp_ne (tgt := 18) hx hb dX7_answered_4 (by decide) (fun c_1 => ?_) (fun c_1 => absurd c_1 (by decide))
  refine lv_iload_n hx hb dX7_answered_18 rfl (lv_at hl 0 rfl) ?_
  refine lv_ldcw (own := "HeroTable") (index := 267) (v := (-1000002)) hx hb hown (htg _ k900) dX7_answered_19 ?_
  refine lv_icmp_ne (tgt := 36) hx hb dX7_answered_22 (by decide) (fun c_2 => ?_) (fun c_2 => absurd c_2 (by decide))
  refine lv_iload_n hx hb dX7_answered_36 rfl (lv_at hl 0 rfl) ?_
  refine lv_ldcw (own := "HeroTable") (index := 270) (v := (-1000003)) hx hb hown (htg _ k917) dX7_answered_37 ?_
  refine lv_icmp_ne (tgt := 54) hx hb dX7_answered_40 (by decide) (fun c_3 => absurd (by decide) c_3) (fun c_3 => ?_)
  exact vx_throwSW (own := "HeroTable") (cls := "java/lang/IllegalStateException") (names := ["java/lang/RuntimeException", "java/lang/Exception"]) hx hb hfl hown rfl (by decide) (htg _ k918) (htg _ k69) (hT.2.1 _ (List.mem_of_getElem? (i := 9) rfl)) (hat_X7_275 htg hT.1) hgd_X7_275 hT.2.2.1.1 hT.2.2.1.2 hS (hl.1.trans hml.symm) dX7_answered_43 dX7_answered_46 dX7_answered_47 dX7_answered_50 dX7_answered_53 (hnoX _) (Nat.lt_of_succ_le (Nat.le_of_ble_eq_true rfl)) (Nat.le_of_ble_eq_true rfl) (Nat.le_of_ble_eq_true rfl) (Nat.le_of_ble_eq_true rfl) B.notSynchronized (fun t ht h1 h2 => ⟨"java/lang/IllegalStateException", rfl, rfl, q_frameX hS h1 h2⟩) hS.2.2 (Nat.le_of_ble_eq_true rfl) (Nat.le_of_ble_eq_true rfl)

set_option maxHeartbeats 4000000 in
set_option maxRecDepth 100000 in
theorem c_ans_1000005 (l : Launch) (hfl : l.stackTraces = false) (g : GP)   : XI l yX7_answered (wG yX7_answered cX7_answered 1 (Option.some Jvm.ClassFile.FieldType.int)) (LV 2 1 6) g [.int (-1000005)] ([]) (fun (r : Int32) (u : va_W) => False) (fun E : String => (E = "java/util/NoSuchElementException")) := by
  intro sz
  refine vx_ofW (cc := cX7_answered) (maxL := 1) (ret := (Option.some Jvm.ClassFile.FieldType.int)) (by decide) rfl ?_
  intro p e s m args below meth c s₁ B hml hno hv
  have hnoX : ∀ (k : Nat), ∀ x ∈ c.exceptionTable.toList, covers x k = false := fun k x h => (hno x h).elim
  obtain ⟨rfl, hsz, hP, hK, hD0, hT0⟩ := hv
  have hx := B.exec
  have hb := B.bytes
  have hr := B.returns
  have hts := atoms_spec (ws := (wG yX7_answered cX7_answered 1 (Option.some Jvm.ClassFile.FieldType.int))) B.pre
  have htg : ∀ w ∈ G9, w.before _ s = true := fun w h => hts w (List.mem_cons_of_mem _ h)
  have hown : s.vm.findClass "HeroTable" = some m.cls := findClass_of_methodNamed B.named
  have hlocks := B.notSynchronized
  subst hsz
  have hD := hD0.self (sz := s.heap.size)
  have hT := hT0
  clear hT0
  generalize hAe : va_A [] s.heap.size = A at hD hT ⊢
  have hA : ∀ q : Nat, s.heap.size ≤ q → A q := fun q h => by rw [← hAe]; exact Or.inr h
  obtain ⟨H, hH0⟩ : ∃ H, H = s.heap := ⟨_, rfl⟩
  have hS : va_S A s.heap H [] := by rw [hH0]; exact va_S.rf
  have hP : va_P g.1 CLS [] H := by rw [hH0]; exact hP
  rw [← hH0]
  have hl := lv_entry ([.int (-1000005)]) (n := 1) (Nat.le_of_ble_eq_true rfl)
  rw [lg_entry_eq]
  generalize (lg_sl ([.int (-1000005)]) ++ List.replicate (1 - (lg_sl ([.int (-1000005)])).length) Slot.unset).toArray = ls at hl ⊢
  have hl : lv_has ls 1 [(0, .int (-1000005))] := hl
  refine lv_iload_n hx hb dX7_answered_0 rfl (lv_at hl 0 rfl) ?_
  refine lv_ldcw (own := "HeroTable") (index := 264) (v := (-1000001)) hx hb hown (htg _ k828) dX7_answered_1 ?_
  refine lv_icmp_ne (tgt := 18) hx hb dX7_answered_4 (by decide) (fun c_1 => ?_) (fun c_1 => absurd c_1 (by decide))
  refine lv_iload_n hx hb dX7_answered_18 rfl (lv_at hl 0 rfl) ?_
  refine lv_ldcw (own := "HeroTable") (index := 267) (v := (-1000002)) hx hb hown (htg _ k900) dX7_answered_19 ?_
  refine lv_icmp_ne (tgt := 36) hx hb dX7_answered_22 (by decide) (fun c_2 => ?_) (fun c_2 => absurd c_2 (by decide))
  refine lv_iload_n hx hb dX7_answered_36 rfl (lv_at hl 0 rfl) ?_
  refine lv_ldcw (own := "HeroTable") (index := 270) (v := (-1000003)) hx hb hown (htg _ k917) dX7_answered_37 ?_
  refine lv_icmp_ne (tgt := 54) hx hb dX7_answered_40 (by decide) (fun c_3 => ?_) (fun c_3 => absurd c_3 (by decide))
  refine lv_iload_n hx hb dX7_answered_54 rfl (lv_at hl 0 rfl) ?_
  refine lv_ldcw (own := "HeroTable") (index := 276) (v := (-1000004)) hx hb hown (htg _ k934) dX7_answered_55 ?_
  refine lv_icmp_ne (tgt := 72) hx hb dX7_answered_58 (by decide) (fun c_4 => ?_) (fun c_4 => absurd c_4 (by decide))
  refine lv_iload_n hx hb dX7_answered_72 rfl (lv_at hl 0 rfl) ?_
  refine lv_ldcw (own := "HeroTable") (index := 282) (v := (-1000005)) hx hb hown (htg _ k951) dX7_answered_73 ?_
  refine lv_icmp_ne (tgt := 89) hx hb dX7_answered_76 (by decide) (fun c_5 => absurd (by decide) c_5) (fun c_5 => ?_)
  exact q_throwN (own := "HeroTable") (cls := "java/util/NoSuchElementException") hx hb hfl rfl hown (htg _ k952) (htg _ k71) (hT.2.1 _ (List.mem_of_getElem? (i := 11) rfl)) (hat_X7_171 htg hT.1) hgd_X7_171 hT.2.2.1.1 hT.2.2.1.2 hS (hl.1.trans hml.symm) dX7_answered_79 dX7_answered_82 dX7_answered_83 dX7_answered_85 dX7_answered_88 (hnoX _) (Nat.lt_of_succ_le (Nat.le_of_ble_eq_true rfl)) (Nat.le_of_ble_eq_true rfl) (Nat.le_of_ble_eq_true rfl) (Nat.le_of_ble_eq_true rfl) B.notSynchronized (fun t ht h1 h2 => ⟨"java/util/NoSuchElementException", rfl, rfl, q_frameX hS h1 h2⟩) hS.2.2 (Nat.le_of_ble_eq_true rfl) (Nat.le_of_ble_eq_true rfl)

set_option maxHeartbeats 4000000 in
set_option maxRecDepth 100000 in
theorem c_X7_knownHero (l : Launch) (hfl : l.stackTraces = false) (g : GP) (x0 : Nat) (t0 : Nat) (th : Nat) (ts : Nat) (tg : Nat) (td : Nat) (tr : Nat) (u0 : Nat) (k0 : Nat) (n1 : Int32)  : XI l yX7_knownHero (wG yX7_knownHero cX7_knownHero 2 (Option.some (Jvm.ClassFile.FieldType.object "HeroTable$Hero"))) (LV 3 1 6) g [.ref x0, .int n1] ([(x0, .inr (8, [.ref t0, .ref u0, .ref k0])), (t0, .inr (6, [.ref th, .ref ts, .ref tg, .ref td, .int 0, .ref tr, .int (-1), .int 0, .int 0, .int 0, .long 0, .int 0, .int 0]))]) (fun (r : Int32) (u : va_W) => False) (fun E : String => (E = "java/lang/IndexOutOfBoundsException")) := by
  intro sz
  refine vx_ofW (cc := cX7_knownHero) (maxL := 2) (ret := (Option.some (Jvm.ClassFile.FieldType.object "HeroTable$Hero"))) (by decide) rfl ?_
  intro p e s m args below meth c s₁ B hml hno hv
  have hnoX : ∀ (k : Nat), ∀ x ∈ c.exceptionTable.toList, covers x k = false := fun k x h => (hno x h).elim
  obtain ⟨rfl, hsz, hP, hK, hD0, hT0⟩ := hv
  have hx := B.exec
  have hb := B.bytes
  have hr := B.returns
  have hts := atoms_spec (ws := (wG yX7_knownHero cX7_knownHero 2 (Option.some (Jvm.ClassFile.FieldType.object "HeroTable$Hero")))) B.pre
  have htg : ∀ w ∈ G9, w.before _ s = true := fun w h => hts w (List.mem_cons_of_mem _ h)
  have hown : s.vm.findClass "HeroTable" = some m.cls := findClass_of_methodNamed B.named
  have hlocks := B.notSynchronized
  subst hsz
  have hD := hD0.self (sz := s.heap.size)
  have hT := hT0
  clear hT0
  generalize hAe : va_A [(x0, .inr (8, [.ref t0, .ref u0, .ref k0])), (t0, .inr (6, [.ref th, .ref ts, .ref tg, .ref td, .int 0, .ref tr, .int (-1), .int 0, .int 0, .int 0, .long 0, .int 0, .int 0]))] s.heap.size = A at hD hT ⊢
  have hA : ∀ q : Nat, s.heap.size ≤ q → A q := fun q h => by rw [← hAe]; exact Or.inr h
  obtain ⟨H, hH0⟩ : ∃ H, H = s.heap := ⟨_, rfl⟩
  have hS : va_S A s.heap H [] := by rw [hH0]; exact va_S.rf
  have hP : va_P g.1 CLS [(x0, .inr (8, [.ref t0, .ref u0, .ref k0])), (t0, .inr (6, [.ref th, .ref ts, .ref tg, .ref td, .int 0, .ref tr, .int (-1), .int 0, .int 0, .int 0, .long 0, .int 0, .int 0]))] H := by rw [hH0]; exact hP
  rw [← hH0]
  have hl := lv_entry ([.ref x0, .int n1]) (n := 2) (Nat.le_of_ble_eq_true rfl)
  rw [lg_entry_eq]
  generalize (lg_sl ([.ref x0, .int n1]) ++ List.replicate (2 - (lg_sl ([.ref x0, .int n1])).length) Slot.unset).toArray = ls at hl ⊢
  have hl : lv_has ls 2 [(0, .ref x0), (1, .int n1)] := hl
  refine lv_aload_n hx hb dX7_knownHero_0 rfl (lv_at hl 0 rfl) ?_
  refine va_get (D := g.1) (ci := 8) (v := .ref t0) (C := RX7) (T := TX7) (N := 3) hx hb htg inG_X7 hown hK hP 0 rfl rfl 0 (by decide) (htg _ k310) (fun _ h9 => h9) rfl dX7_knownHero_1 ?_
  refine lv_iload_n hx hb dX7_knownHero_4 rfl (lv_at hl 1 rfl) ?_
  have hPc := hP.sub (ws' := [(t0, .inr (6, [.ref th, .ref ts, .ref tg, .ref td, .int 0, .ref tr, .int (-1), .int 0, .int 0, .int 0, .long 0, .int 0, .int 0]))]) [1] rfl
  have hDc := hD.sub (ws' := [(t0, .inr (6, [.ref th, .ref ts, .ref tg, .ref td, .int 0, .ref tr, .int (-1), .int 0, .int 0, .int 0, .long 0, .int 0, .int 0]))]) [1] (by decide) rfl
  have hFc := va_free (wc := [(t0, .inr (6, [.ref th, .ref ts, .ref tg, .ref td, .int 0, .ref tr, .int (-1), .int 0, .int 0, .int 0, .long 0, .int 0, .int 0]))]) hD hS hA [1] rfl
  refine q_ci (wr := [(x0, .inr (8, [.ref t0, .ref u0, .ref k0]))]) (va_runV (As := [.int n1]) (rest := []) ⟨hx, hb, hml, hown, htg⟩ (c_X5_isHero l hfl g t0 th ts tg td tr n1  H.size) ⟨(qB htg k522 k51 k1037 ok_X5_isHero rfl rfl ⟨Nat.le_of_ble_eq_true rfl, Nat.le_of_ble_eq_true rfl⟩), htg _ k520, htg _ k521⟩ ⟨(q_pre [.ref t0, .int n1] hPc hDc hK hS hT hFc).1, va_recv hK hP (ci := 6) (q0 := 1) rfl rfl, (q_pre [.ref t0, .int n1] hPc hDc hK hS hT hFc).2⟩ rfl rfl hl.1 rfl (lv_room (Nat.le_of_ble_eq_true rfl)) dX7_knownHero_5 ⟨Nat.le_of_ble_eq_true rfl, Nat.le_of_ble_eq_true rfl⟩) hP hD hS hFc [1] [0] rfl rfl (by decide) (by decide) (fun r9 u9 H locs hw hP hD hS => ?_)
  try dsimp only at hw
  rcases hw with ⟨rfl, rfl⟩
  have hP : va_P g.1 CLS [(x0, .inr (8, [.ref t0, .ref u0, .ref k0])), (t0, .inr (6, [.ref th, .ref ts, .ref tg, .ref td, .int 0, .ref tr, .int (-1), .int 0, .int 0, .int 0, .long 0, .int 0, .int 0]))] H := hP
  have hD : va_D A [(x0, .inr (8, [.ref t0, .ref u0, .ref k0])), (t0, .inr (6, [.ref th, .ref ts, .ref tg, .ref td, .int 0, .ref tr, .int (-1), .int 0, .int 0, .int 0, .long 0, .int 0, .int 0]))] := hD
  refine W.widen (k := 0) (n := 0) (Nat.le_of_ble_eq_true rfl) (Nat.le_of_ble_eq_true rfl) ?_
  refine lv_if_ne (tgt := 22) hx hb dX7_knownHero_8 (by decide) (fun c_1 => absurd (by decide) c_1) (fun c_1 => ?_)
  exact vx_throwSW (own := "HeroTable") (cls := "java/lang/IndexOutOfBoundsException") (names := ["java/lang/RuntimeException", "java/lang/Exception"]) hx hb hfl hown rfl (by decide) (htg _ k829) (htg _ k67) (hT.2.1 _ (List.mem_of_getElem? (i := 12) rfl)) (hat_X7_117 htg hT.1) hgd_X7_117 hT.2.2.1.1 hT.2.2.1.2 hS (hl.1.trans hml.symm) dX7_knownHero_11 dX7_knownHero_14 dX7_knownHero_15 dX7_knownHero_18 dX7_knownHero_21 (hnoX _) (Nat.lt_of_succ_le (Nat.le_of_ble_eq_true rfl)) (Nat.le_of_ble_eq_true rfl) (Nat.le_of_ble_eq_true rfl) (Nat.le_of_ble_eq_true rfl) B.notSynchronized (fun t ht h1 h2 => ⟨"java/lang/IndexOutOfBoundsException", rfl, rfl, q_frameX hS h1 h2⟩) hS.2.2 (Nat.le_of_ble_eq_true rfl) (Nat.le_of_ble_eq_true rfl)

set_option maxHeartbeats 4000000 in
set_option maxRecDepth 100000 in
theorem c_X7_addHero (l : Launch) (hfl : l.stackTraces = false) (g : GP) (x0 : Nat) (t0 : Nat) (th : Nat) (ts : Nat) (tg : Nat) (td : Nat) (tr : Nat) (u0 : Nat) (k0 : Nat) (tc : Nat) (fc : Nat → Int32) (fh : Nat → Option Nat) (z0 : Nat) (z1 : Nat) (z2 : Nat) (z3 : Nat) (z4 : Nat) (z5 : Nat) (f1 : Nat → Int32) (f2 : Nat → Int32) (f3 : Nat → Int32) (f4 : Nat → Int32) (f5 : Nat → Int32) (kr : Nat) (fk : Nat → Int32) (n1 : Int32) (n2 : Int32) (n3 : Int32) (n4 : Int32) (n5 : Int32) (hfh : fh 0 = some z0) (hfc : ∀ j : Nat, j < 64 → fc j = 46) : XI l yX7_addHero (wG yX7_addHero cX7_addHero 7 (Option.some Jvm.ClassFile.FieldType.int)) (LV 6 1 6) g [.ref x0, .int n1, .int n2, .int n3, .int n4, .int n5] ([(x0, .inr (8, [.ref t0, .ref u0, .ref k0])), (t0, .inr (6, [.ref th, .ref ts, .ref tg, .ref td, .int 0, .ref tr, .int (-1), .int 0, .int 0, .int 0, .long 0, .int 0, .int 0])), (th, .inl (g.2.1 3, 6, .inr (.inr (.inr (.inr fh))))), (z0, .inr (4, [.int 0, .int 0, .int 0, .int 0, .int 0, .int 0, .int 0, .int 0, .int 0, .int 0, .int 0, .int 0, .ref z1, .ref z2, .ref z3, .ref z4, .ref z5])), (z1, .inl (g.2.1 1, 5, .inl f1)), (z2, .inl (g.2.1 1, 5, .inl f2)), (z3, .inl (g.2.1 2, 5, .inl f3)), (z4, .inl (g.2.1 1, 6, .inl f4)), (z5, .inl (g.2.1 2, 6, .inl f5)), (tg, .inr (3, [.ref tc])), (tc, .inl (g.2.1 0, 64, .inl fc)), (k0, .inr (7, [.ref kr, .int 0])), (kr, .inl (g.2.1 1, 128, .inl fk))]) (fun (r : Int32) (u : va_W) => (okAdd n1 n2 n3 n4 n5) ∧ r = 0 ∧ u = []) (fun E : String => (E = "java/lang/IllegalArgumentException" ∧ (¬ okAdd n1 n2 n3 n4 n5))) := by
  intro sz
  refine vx_ofW (cc := cX7_addHero) (maxL := 7) (ret := (Option.some Jvm.ClassFile.FieldType.int)) (by decide) rfl ?_
  intro p e s m args below meth c s₁ B hml hno hv
  have hnoX : ∀ (k : Nat), ∀ x ∈ c.exceptionTable.toList, covers x k = false := fun k x h => (hno x h).elim
  obtain ⟨rfl, hsz, hP, hK, hD0, hT0⟩ := hv
  have hx := B.exec
  have hb := B.bytes
  have hr := B.returns
  have hts := atoms_spec (ws := (wG yX7_addHero cX7_addHero 7 (Option.some Jvm.ClassFile.FieldType.int))) B.pre
  have htg : ∀ w ∈ G9, w.before _ s = true := fun w h => hts w (List.mem_cons_of_mem _ h)
  have hown : s.vm.findClass "HeroTable" = some m.cls := findClass_of_methodNamed B.named
  have hlocks := B.notSynchronized
  subst hsz
  have hD := hD0.self (sz := s.heap.size)
  have hT := hT0
  clear hT0
  generalize hAe : va_A [(x0, .inr (8, [.ref t0, .ref u0, .ref k0])), (t0, .inr (6, [.ref th, .ref ts, .ref tg, .ref td, .int 0, .ref tr, .int (-1), .int 0, .int 0, .int 0, .long 0, .int 0, .int 0])), (th, .inl (g.2.1 3, 6, .inr (.inr (.inr (.inr fh))))), (z0, .inr (4, [.int 0, .int 0, .int 0, .int 0, .int 0, .int 0, .int 0, .int 0, .int 0, .int 0, .int 0, .int 0, .ref z1, .ref z2, .ref z3, .ref z4, .ref z5])), (z1, .inl (g.2.1 1, 5, .inl f1)), (z2, .inl (g.2.1 1, 5, .inl f2)), (z3, .inl (g.2.1 2, 5, .inl f3)), (z4, .inl (g.2.1 1, 6, .inl f4)), (z5, .inl (g.2.1 2, 6, .inl f5)), (tg, .inr (3, [.ref tc])), (tc, .inl (g.2.1 0, 64, .inl fc)), (k0, .inr (7, [.ref kr, .int 0])), (kr, .inl (g.2.1 1, 128, .inl fk))] s.heap.size = A at hD hT ⊢
  have hA : ∀ q : Nat, s.heap.size ≤ q → A q := fun q h => by rw [← hAe]; exact Or.inr h
  obtain ⟨H, hH0⟩ : ∃ H, H = s.heap := ⟨_, rfl⟩
  have hS : va_S A s.heap H [] := by rw [hH0]; exact va_S.rf
  have hP : va_P g.1 CLS [(x0, .inr (8, [.ref t0, .ref u0, .ref k0])), (t0, .inr (6, [.ref th, .ref ts, .ref tg, .ref td, .int 0, .ref tr, .int (-1), .int 0, .int 0, .int 0, .long 0, .int 0, .int 0])), (th, .inl (g.2.1 3, 6, .inr (.inr (.inr (.inr fh))))), (z0, .inr (4, [.int 0, .int 0, .int 0, .int 0, .int 0, .int 0, .int 0, .int 0, .int 0, .int 0, .int 0, .int 0, .ref z1, .ref z2, .ref z3, .ref z4, .ref z5])), (z1, .inl (g.2.1 1, 5, .inl f1)), (z2, .inl (g.2.1 1, 5, .inl f2)), (z3, .inl (g.2.1 2, 5, .inl f3)), (z4, .inl (g.2.1 1, 6, .inl f4)), (z5, .inl (g.2.1 2, 6, .inl f5)), (tg, .inr (3, [.ref tc])), (tc, .inl (g.2.1 0, 64, .inl fc)), (k0, .inr (7, [.ref kr, .int 0])), (kr, .inl (g.2.1 1, 128, .inl fk))] H := by rw [hH0]; exact hP
  rw [← hH0]
  have hl := lv_entry ([.ref x0, .int n1, .int n2, .int n3, .int n4, .int n5]) (n := 7) (Nat.le_of_ble_eq_true rfl)
  rw [lg_entry_eq]
  generalize (lg_sl ([.ref x0, .int n1, .int n2, .int n3, .int n4, .int n5]) ++ List.replicate (7 - (lg_sl ([.ref x0, .int n1, .int n2, .int n3, .int n4, .int n5])).length) Slot.unset).toArray = ls at hl ⊢
  have hl : lv_has ls 7 [(0, .ref x0), (1, .int n1), (2, .int n2), (3, .int n3), (4, .int n4), (5, .int n5)] := hl
  refine lv_aload_n hx hb dX7_addHero_0 rfl (lv_at hl 0 rfl) ?_
  refine va_get (D := g.1) (ci := 8) (v := .ref t0) (C := RX7) (T := TX7) (N := 3) hx hb htg inG_X7 hown hK hP 0 rfl rfl 0 (by decide) (htg _ k310) (fun _ h9 => h9) rfl dX7_addHero_1 ?_
  refine lv_iload_n hx hb dX7_addHero_4 rfl (lv_at hl 1 rfl) ?_
  refine lv_iload_n hx hb dX7_addHero_5 rfl (lv_at hl 2 rfl) ?_
  refine lv_iload_n hx hb dX7_addHero_6 rfl (lv_at hl 3 rfl) ?_
  refine lv_iload hx hb dX7_addHero_7 (lv_at hl 4 rfl) ?_
  refine lv_iload hx hb dX7_addHero_9 (lv_at hl 5 rfl) ?_
  have hPc := hP.sub (ws' := [(t0, .inr (6, [.ref th, .ref ts, .ref tg, .ref td, .int 0, .ref tr, .int (-1), .int 0, .int 0, .int 0, .long 0, .int 0, .int 0])), (th, .inl (g.2.1 3, 6, .inr (.inr (.inr (.inr fh))))), (z0, .inr (4, [.int 0, .int 0, .int 0, .int 0, .int 0, .int 0, .int 0, .int 0, .int 0, .int 0, .int 0, .int 0, .ref z1, .ref z2, .ref z3, .ref z4, .ref z5])), (z1, .inl (g.2.1 1, 5, .inl f1)), (z2, .inl (g.2.1 1, 5, .inl f2)), (z3, .inl (g.2.1 2, 5, .inl f3)), (z4, .inl (g.2.1 1, 6, .inl f4)), (z5, .inl (g.2.1 2, 6, .inl f5)), (tg, .inr (3, [.ref tc])), (tc, .inl (g.2.1 0, 64, .inl fc))]) [1, 2, 3, 4, 5, 6, 7, 8, 9, 10] rfl
  have hDc := hD.sub (ws' := [(t0, .inr (6, [.ref th, .ref ts, .ref tg, .ref td, .int 0, .ref tr, .int (-1), .int 0, .int 0, .int 0, .long 0, .int 0, .int 0])), (th, .inl (g.2.1 3, 6, .inr (.inr (.inr (.inr fh))))), (z0, .inr (4, [.int 0, .int 0, .int 0, .int 0, .int 0, .int 0, .int 0, .int 0, .int 0, .int 0, .int 0, .int 0, .ref z1, .ref z2, .ref z3, .ref z4, .ref z5])), (z1, .inl (g.2.1 1, 5, .inl f1)), (z2, .inl (g.2.1 1, 5, .inl f2)), (z3, .inl (g.2.1 2, 5, .inl f3)), (z4, .inl (g.2.1 1, 6, .inl f4)), (z5, .inl (g.2.1 2, 6, .inl f5)), (tg, .inr (3, [.ref tc])), (tc, .inl (g.2.1 0, 64, .inl fc))]) [1, 2, 3, 4, 5, 6, 7, 8, 9, 10] (by decide) rfl
  have hFc := va_free (wc := [(t0, .inr (6, [.ref th, .ref ts, .ref tg, .ref td, .int 0, .ref tr, .int (-1), .int 0, .int 0, .int 0, .long 0, .int 0, .int 0])), (th, .inl (g.2.1 3, 6, .inr (.inr (.inr (.inr fh))))), (z0, .inr (4, [.int 0, .int 0, .int 0, .int 0, .int 0, .int 0, .int 0, .int 0, .int 0, .int 0, .int 0, .int 0, .ref z1, .ref z2, .ref z3, .ref z4, .ref z5])), (z1, .inl (g.2.1 1, 5, .inl f1)), (z2, .inl (g.2.1 1, 5, .inl f2)), (z3, .inl (g.2.1 2, 5, .inl f3)), (z4, .inl (g.2.1 1, 6, .inl f4)), (z5, .inl (g.2.1 2, 6, .inl f5)), (tg, .inr (3, [.ref tc])), (tc, .inl (g.2.1 0, 64, .inl fc))]) hD hS hA [1, 2, 3, 4, 5, 6, 7, 8, 9, 10] rfl
  refine q_ci (wr := [(x0, .inr (8, [.ref t0, .ref u0, .ref k0])), (k0, .inr (7, [.ref kr, .int 0])), (kr, .inl (g.2.1 1, 128, .inl fk))]) (va_runV (As := [.int n1, .int n2, .int n3, .int n4, .int n5]) (rest := []) ⟨hx, hb, hml, hown, htg⟩ (c_X5_enrol l hfl g t0 th ts tg td tr tc fc fh z0 z1 z2 z3 z4 z5 f1 f2 f3 f4 f5 n1 n2 n3 n4 n5 (hfh) (hfc) H.size) ⟨(qB htg k392 k51 k824 ok_X5_enrol rfl rfl ⟨Nat.le_of_ble_eq_true rfl, Nat.le_of_ble_eq_true rfl⟩), htg _ k390, htg _ k391⟩ ⟨(q_pre [.ref t0, .int n1, .int n2, .int n3, .int n4, .int n5] hPc hDc hK hS hT hFc).1, va_recv hK hP (ci := 6) (q0 := 1) rfl rfl, (q_pre [.ref t0, .int n1, .int n2, .int n3, .int n4, .int n5] hPc hDc hK hS hT hFc).2⟩ rfl rfl hl.1 rfl (lv_room (Nat.le_of_ble_eq_true rfl)) dX7_addHero_11 ⟨Nat.le_of_ble_eq_true rfl, Nat.le_of_ble_eq_true rfl⟩) hP hD hS hFc [1, 2, 3, 4, 5, 6, 7, 8, 9, 10] [0, 11, 12] rfl rfl (by decide) (by decide) (fun r9 u9 H locs hw hP hD hS => ?_)
  try dsimp only at hw
  rcases hw with ⟨c_1, rfl, rfl⟩ | ⟨c_2, rfl, rfl⟩
  · have hP : va_P g.1 CLS [(x0, .inr (8, [.ref t0, .ref u0, .ref k0])), (k0, .inr (7, [.ref kr, .int 0])), (kr, .inl (g.2.1 1, 128, .inl fk)), (t0, .inr (6, [.ref th, .ref ts, .ref tg, .ref td, .int 1, .ref tr, .int (-1), .int 0, .int 0, .int 0, .long 0, .int 0, .int 0])), (tg, .inr (3, [.ref tc])), (tc, .inl (g.2.1 0, 64, .inl fc))] H := hP
    have hD : va_D A [(x0, .inr (8, [.ref t0, .ref u0, .ref k0])), (k0, .inr (7, [.ref kr, .int 0])), (kr, .inl (g.2.1 1, 128, .inl fk)), (t0, .inr (6, [.ref th, .ref ts, .ref tg, .ref td, .int 1, .ref tr, .int (-1), .int 0, .int 0, .int 0, .long 0, .int 0, .int 0])), (tg, .inr (3, [.ref tc])), (tc, .inl (g.2.1 0, 64, .inl fc))] := hD
    refine W.widen (k := 0) (n := 0) (Nat.le_of_ble_eq_true rfl) (Nat.le_of_ble_eq_true rfl) ?_
    have hPc := hP.sub (ws' := []) [] rfl
    have hDc := hD.sub (ws' := []) [] (by decide) rfl
    have hFc := va_free (wc := []) hD hS hA [] rfl
    refine q_ci (wr := [(x0, .inr (8, [.ref t0, .ref u0, .ref k0])), (k0, .inr (7, [.ref kr, .int 0])), (kr, .inl (g.2.1 1, 128, .inl fk)), (t0, .inr (6, [.ref th, .ref ts, .ref tg, .ref td, .int 1, .ref tr, .int (-1), .int 0, .int 0, .int 0, .long 0, .int 0, .int 0])), (tg, .inr (3, [.ref tc])), (tc, .inl (g.2.1 0, 64, .inl fc))]) (va_runS (As := [.int 0]) (rest := []) ⟨hx, hb, hml, hown, htg⟩ (c_ans_val l hfl g 0 (by decide) (by decide) (by decide) (by decide) (by decide) H.size) ⟨(qB htg k827 k50 k825 ok_X7_answered rfl rfl ⟨Nat.le_of_ble_eq_true rfl, Nat.le_of_ble_eq_true rfl⟩), htg _ k826⟩ (q_pre [.int 0] hPc hDc hK hS hT hFc) rfl rfl hl.1 rfl (lv_room (Nat.le_of_ble_eq_true rfl)) dX7_addHero_14 ⟨Nat.le_of_ble_eq_true rfl, Nat.le_of_ble_eq_true rfl⟩) hP hD hS hFc [] [0, 1, 2, 3, 4, 5] rfl rfl (by decide) (by decide) (fun r9 u9 H locs hw hP hD hS => ?_)
    try dsimp only at hw
    rcases hw with ⟨rfl, rfl⟩
    have hP : va_P g.1 CLS [(x0, .inr (8, [.ref t0, .ref u0, .ref k0])), (k0, .inr (7, [.ref kr, .int 0])), (kr, .inl (g.2.1 1, 128, .inl fk)), (t0, .inr (6, [.ref th, .ref ts, .ref tg, .ref td, .int 1, .ref tr, .int (-1), .int 0, .int 0, .int 0, .long 0, .int 0, .int 0])), (tg, .inr (3, [.ref tc])), (tc, .inl (g.2.1 0, 64, .inl fc))] H := hP
    have hD : va_D A [(x0, .inr (8, [.ref t0, .ref u0, .ref k0])), (k0, .inr (7, [.ref kr, .int 0])), (kr, .inl (g.2.1 1, 128, .inl fk)), (t0, .inr (6, [.ref th, .ref ts, .ref tg, .ref td, .int 1, .ref tr, .int (-1), .int 0, .int 0, .int 0, .long 0, .int 0, .int 0])), (tg, .inr (3, [.ref tc])), (tc, .inl (g.2.1 0, 64, .inl fc))] := hD
    refine W.widen (k := 0) (n := 0) (Nat.le_of_ble_eq_true rfl) (Nat.le_of_ble_eq_true rfl) ?_
    refine lv_istore (lv' := [(6, .int 0), (0, .ref x0), (1, .int n1), (2, .int n2), (3, .int n3), (4, .int n4), (5, .int n5)]) hx hb dX7_addHero_17 hl (by decide) rfl (fun ls hl => ?_)
    refine lv_aload_n hx hb dX7_addHero_19 rfl (lv_at hl 1 rfl) ?_
    refine va_get (D := g.1) (ci := 8) (v := .ref k0) (C := RX7) (T := TX7) (N := 3) hx hb htg inG_X7 hown hK hP 0 rfl rfl 2 (by decide) (htg _ k312) (fun _ h9 => h9) rfl dX7_addHero_20 ?_
    refine lv_iconst (v := 0) hx hb dX7_addHero_23 (by decide) ?_
    refine lv_iload_n hx hb dX7_addHero_24 rfl (lv_at hl 2 rfl) ?_
    refine lv_iload_n hx hb dX7_addHero_25 rfl (lv_at hl 3 rfl) ?_
    refine lv_iload_n hx hb dX7_addHero_26 rfl (lv_at hl 4 rfl) ?_
    refine lv_iload hx hb dX7_addHero_27 (lv_at hl 5 rfl) ?_
    refine lv_iload hx hb dX7_addHero_29 (lv_at hl 6 rfl) ?_
    refine lv_iconst (v := 0) hx hb dX7_addHero_31 (by decide) ?_
    have hPc := hP.sub (ws' := [(k0, .inr (7, [.ref kr, .int 0])), (kr, .inl (g.2.1 1, 128, .inl fk))]) [1, 2] rfl
    have hDc := hD.sub (ws' := [(k0, .inr (7, [.ref kr, .int 0])), (kr, .inl (g.2.1 1, 128, .inl fk))]) [1, 2] (by decide) rfl
    have hFc := va_free (wc := [(k0, .inr (7, [.ref kr, .int 0])), (kr, .inl (g.2.1 1, 128, .inl fk))]) hD hS hA [1, 2] rfl
    refine q_cv (wr := [(x0, .inr (8, [.ref t0, .ref u0, .ref k0])), (t0, .inr (6, [.ref th, .ref ts, .ref tg, .ref td, .int 1, .ref tr, .int (-1), .int 0, .int 0, .int 0, .long 0, .int 0, .int 0])), (tg, .inr (3, [.ref tc])), (tc, .inl (g.2.1 0, 64, .inl fc))]) (va_runV (As := [.int 0, .int n1, .int n2, .int n3, .int n4, .int n5, .int 0]) (rest := []) ⟨hx, hb, hml, hown, htg⟩ (c_X6_keep l hfl g k0 kr fk 0 n1 n2 n3 n4 n5 0  H.size) ⟨(qB htg k971 k56 k968 ok_X6_keep rfl rfl ⟨Nat.le_of_ble_eq_true rfl, Nat.le_of_ble_eq_true rfl⟩), htg _ k969, htg _ k970⟩ ⟨(q_pre [.ref k0, .int 0, .int n1, .int n2, .int n3, .int n4, .int n5, .int 0] hPc hDc hK hS hT hFc).1, va_recv hK hP (ci := 7) (q0 := 1) rfl rfl, (q_pre [.ref k0, .int 0, .int n1, .int n2, .int n3, .int n4, .int n5, .int 0] hPc hDc hK hS hT hFc).2⟩ rfl rfl hl.1 rfl (lv_room (Nat.le_of_ble_eq_true rfl)) dX7_addHero_32 ⟨Nat.le_of_ble_eq_true rfl, Nat.le_of_ble_eq_true rfl⟩) hP hD hS hFc [1, 2] [0, 3, 4, 5] rfl rfl (by decide) (by decide) (fun u9 H locs hw hP hD hS => ?_)
    try dsimp only at hw
    rcases hw with ⟨f_3, rfl⟩
    have hP : va_P g.1 CLS [(x0, .inr (8, [.ref t0, .ref u0, .ref k0])), (t0, .inr (6, [.ref th, .ref ts, .ref tg, .ref td, .int 1, .ref tr, .int (-1), .int 0, .int 0, .int 0, .long 0, .int 0, .int 0])), (tg, .inr (3, [.ref tc])), (tc, .inl (g.2.1 0, 64, .inl fc)), (k0, .inr (7, [.ref kr, .int 1])), (kr, .inl (g.2.1 1, 128, .inl f_3))] H := hP
    have hD : va_D A [(x0, .inr (8, [.ref t0, .ref u0, .ref k0])), (t0, .inr (6, [.ref th, .ref ts, .ref tg, .ref td, .int 1, .ref tr, .int (-1), .int 0, .int 0, .int 0, .long 0, .int 0, .int 0])), (tg, .inr (3, [.ref tc])), (tc, .inl (g.2.1 0, 64, .inl fc)), (k0, .inr (7, [.ref kr, .int 1])), (kr, .inl (g.2.1 1, 128, .inl f_3))] := hD
    refine W.widen (k := 0) (n := 0) (Nat.le_of_ble_eq_true rfl) (Nat.le_of_ble_eq_true rfl) ?_
    refine lv_iload hx hb dX7_addHero_35 (lv_at hl 0 rfl) ?_
    have hP9 := hP.sub (ws' := []) [] rfl
    have hD9 := hD.sub (ws' := []) [] (by decide) rfl
    refine W.widen (k := 1) (n := 6) (Nat.le_of_ble_eq_true rfl) (Nat.le_of_ble_eq_true rfl) ?_
    refine vx_ret ?_
    exact W.iret (v := 0) hx hb hr (fun t ht hW => ⟨⟨0, [], rfl, ⟨by assumption, rfl, rfl⟩, by rw [ht]; exact hP9, va_K.moved hW.alike hK, hD9⟩, hS.F ht⟩) hS.2.2 dX7_addHero_37
  · have hP : va_P g.1 CLS [(x0, .inr (8, [.ref t0, .ref u0, .ref k0])), (k0, .inr (7, [.ref kr, .int 0])), (kr, .inl (g.2.1 1, 128, .inl fk)), (t0, .inr (6, [.ref th, .ref ts, .ref tg, .ref td, .int 0, .ref tr, .int (-1), .int 0, .int 0, .int 0, .long 0, .int 0, .int 0])), (tg, .inr (3, [.ref tc])), (tc, .inl (g.2.1 0, 64, .inl fc))] H := hP
    have hD : va_D A [(x0, .inr (8, [.ref t0, .ref u0, .ref k0])), (k0, .inr (7, [.ref kr, .int 0])), (kr, .inl (g.2.1 1, 128, .inl fk)), (t0, .inr (6, [.ref th, .ref ts, .ref tg, .ref td, .int 0, .ref tr, .int (-1), .int 0, .int 0, .int 0, .long 0, .int 0, .int 0])), (tg, .inr (3, [.ref tc])), (tc, .inl (g.2.1 0, 64, .inl fc))] := hD
    refine W.widen (k := 0) (n := 0) (Nat.le_of_ble_eq_true rfl) (Nat.le_of_ble_eq_true rfl) ?_
    have hPc := hP.sub (ws' := []) [] rfl
    have hDc := hD.sub (ws' := []) [] (by decide) rfl
    have hFc := va_free (wc := []) hD hS hA [] rfl
    refine q_xi (wr := [(x0, .inr (8, [.ref t0, .ref u0, .ref k0])), (k0, .inr (7, [.ref kr, .int 0])), (kr, .inl (g.2.1 1, 128, .inl fk)), (t0, .inr (6, [.ref th, .ref ts, .ref tg, .ref td, .int 0, .ref tr, .int (-1), .int 0, .int 0, .int 0, .long 0, .int 0, .int 0])), (tg, .inr (3, [.ref tc])), (tc, .inl (g.2.1 0, 64, .inl fc))]) (vx_runS (As := [.int (-1000002)]) (rest := []) ⟨hx, hb, hml, hown, htg⟩ (c_ans_1000002 l hfl g   H.size) ⟨(qB htg k827 k50 k825 ok_X7_answered rfl rfl ⟨Nat.le_of_ble_eq_true rfl, Nat.le_of_ble_eq_true rfl⟩), htg _ k826⟩ (q_pre [.int (-1000002)] hPc hDc hK hS hT hFc) rfl rfl hl.1 rfl (lv_room (Nat.le_of_ble_eq_true rfl)) dX7_addHero_14 ⟨Nat.le_of_ble_eq_true rfl, Nat.le_of_ble_eq_true rfl⟩) hP hD hS hFc [] [0, 1, 2, 3, 4, 5] rfl rfl (by decide) (by decide) (fun E9 ce9 q9 H locs hpx hP hD hS hq1 hq2 hq3 => ?_) (fun r9 u9 H locs hw hP hD hS => ?_)
    · exact vx_out (hnoX _) B.notSynchronized hq1 hq2 hq3 (fun t ht hv => ⟨E9, ⟨hpx, c_2⟩, rfl, hS.F ht⟩) hS.2.2 (Nat.le_of_ble_eq_true rfl) (Nat.le_of_ble_eq_true rfl)
    · exact hw.elim

set_option maxHeartbeats 4000000 in
set_option maxRecDepth 100000 in
theorem c_X7_setGround (l : Launch) (hfl : l.stackTraces = false) (g : GP) (x0 : Nat) (t0 : Nat) (th : Nat) (ts : Nat) (tg : Nat) (td : Nat) (tr : Nat) (u0 : Nat) (k0 : Nat) (tc : Nat) (fc : Nat → Int32) (kr : Nat) (fk : Nat → Int32) (n1 : Int32) (n2 : Int32) (n3 : Int32) (hfc : ∀ j : Nat, j < 64 → fc j = 46) : XI l yX7_setGround (wG yX7_setGround cX7_setGround 5 (Option.some Jvm.ClassFile.FieldType.char)) (LV 7 1 6) g [.ref x0, .int n1, .int n2, .int n3] ([(x0, .inr (8, [.ref t0, .ref u0, .ref k0])), (t0, .inr (6, [.ref th, .ref ts, .ref tg, .ref td, .int 0, .ref tr, .int (-1), .int 0, .int 0, .int 0, .long 0, .int 0, .int 0])), (tg, .inr (3, [.ref tc])), (tc, .inl (g.2.1 0, 64, .inl fc)), (k0, .inr (7, [.ref kr, .int 0])), (kr, .inl (g.2.1 1, 128, .inl fk))]) (fun (r : Int32) (u : va_W) => (okGr n1 n2 n3) ∧ r = 46 ∧ u = []) (fun E : String => (E = "java/lang/IllegalArgumentException" ∧ (¬ okGr n1 n2 n3))) := by
  intro sz
  refine vx_ofW (cc := cX7_setGround) (maxL := 5) (ret := (Option.some Jvm.ClassFile.FieldType.char)) (by decide) rfl ?_
  intro p e s m args below meth c s₁ B hml hno hv
  have hnoX : ∀ (k : Nat), ∀ x ∈ c.exceptionTable.toList, covers x k = false := fun k x h => (hno x h).elim
  obtain ⟨rfl, hsz, hP, hK, hD0, hT0⟩ := hv
  have hx := B.exec
  have hb := B.bytes
  have hr := B.returns
  have hts := atoms_spec (ws := (wG yX7_setGround cX7_setGround 5 (Option.some Jvm.ClassFile.FieldType.char))) B.pre
  have htg : ∀ w ∈ G9, w.before _ s = true := fun w h => hts w (List.mem_cons_of_mem _ h)
  have hown : s.vm.findClass "HeroTable" = some m.cls := findClass_of_methodNamed B.named
  have hlocks := B.notSynchronized
  subst hsz
  have hD := hD0.self (sz := s.heap.size)
  have hT := hT0
  clear hT0
  generalize hAe : va_A [(x0, .inr (8, [.ref t0, .ref u0, .ref k0])), (t0, .inr (6, [.ref th, .ref ts, .ref tg, .ref td, .int 0, .ref tr, .int (-1), .int 0, .int 0, .int 0, .long 0, .int 0, .int 0])), (tg, .inr (3, [.ref tc])), (tc, .inl (g.2.1 0, 64, .inl fc)), (k0, .inr (7, [.ref kr, .int 0])), (kr, .inl (g.2.1 1, 128, .inl fk))] s.heap.size = A at hD hT ⊢
  have hA : ∀ q : Nat, s.heap.size ≤ q → A q := fun q h => by rw [← hAe]; exact Or.inr h
  obtain ⟨H, hH0⟩ : ∃ H, H = s.heap := ⟨_, rfl⟩
  have hS : va_S A s.heap H [] := by rw [hH0]; exact va_S.rf
  have hP : va_P g.1 CLS [(x0, .inr (8, [.ref t0, .ref u0, .ref k0])), (t0, .inr (6, [.ref th, .ref ts, .ref tg, .ref td, .int 0, .ref tr, .int (-1), .int 0, .int 0, .int 0, .long 0, .int 0, .int 0])), (tg, .inr (3, [.ref tc])), (tc, .inl (g.2.1 0, 64, .inl fc)), (k0, .inr (7, [.ref kr, .int 0])), (kr, .inl (g.2.1 1, 128, .inl fk))] H := by rw [hH0]; exact hP
  rw [← hH0]
  have hl := lv_entry ([.ref x0, .int n1, .int n2, .int n3]) (n := 5) (Nat.le_of_ble_eq_true rfl)
  rw [lg_entry_eq]
  generalize (lg_sl ([.ref x0, .int n1, .int n2, .int n3]) ++ List.replicate (5 - (lg_sl ([.ref x0, .int n1, .int n2, .int n3])).length) Slot.unset).toArray = ls at hl ⊢
  have hl : lv_has ls 5 [(0, .ref x0), (1, .int n1), (2, .int n2), (3, .int n3)] := hl
  refine lv_aload_n hx hb dX7_setGround_0 rfl (lv_at hl 0 rfl) ?_
  refine va_get (D := g.1) (ci := 8) (v := .ref t0) (C := RX7) (T := TX7) (N := 3) hx hb htg inG_X7 hown hK hP 0 rfl rfl 0 (by decide) (htg _ k310) (fun _ h9 => h9) rfl dX7_setGround_1 ?_
  refine lv_iload_n hx hb dX7_setGround_4 rfl (lv_at hl 1 rfl) ?_
  refine lv_iload_n hx hb dX7_setGround_5 rfl (lv_at hl 2 rfl) ?_
  refine lv_iload_n hx hb dX7_setGround_6 rfl (lv_at hl 3 rfl) ?_
  have hPc := hP.sub (ws' := [(t0, .inr (6, [.ref th, .ref ts, .ref tg, .ref td, .int 0, .ref tr, .int (-1), .int 0, .int 0, .int 0, .long 0, .int 0, .int 0])), (tg, .inr (3, [.ref tc])), (tc, .inl (g.2.1 0, 64, .inl fc))]) [1, 2, 3] rfl
  have hDc := hD.sub (ws' := [(t0, .inr (6, [.ref th, .ref ts, .ref tg, .ref td, .int 0, .ref tr, .int (-1), .int 0, .int 0, .int 0, .long 0, .int 0, .int 0])), (tg, .inr (3, [.ref tc])), (tc, .inl (g.2.1 0, 64, .inl fc))]) [1, 2, 3] (by decide) rfl
  have hFc := va_free (wc := [(t0, .inr (6, [.ref th, .ref ts, .ref tg, .ref td, .int 0, .ref tr, .int (-1), .int 0, .int 0, .int 0, .long 0, .int 0, .int 0])), (tg, .inr (3, [.ref tc])), (tc, .inl (g.2.1 0, 64, .inl fc))]) hD hS hA [1, 2, 3] rfl
  refine q_ci (wr := [(x0, .inr (8, [.ref t0, .ref u0, .ref k0])), (k0, .inr (7, [.ref kr, .int 0])), (kr, .inl (g.2.1 1, 128, .inl fk))]) (va_runV (As := [.int n1, .int n2, .int n3]) (rest := []) ⟨hx, hb, hml, hown, htg⟩ (c_X5_layGround l hfl g t0 th ts tg td tr tc fc n1 n2 n3 (hfc) H.size) ⟨(qB htg k423 k51 k980 ok_X5_layGround rfl rfl ⟨Nat.le_of_ble_eq_true rfl, Nat.le_of_ble_eq_true rfl⟩), htg _ k421, htg _ k422⟩ ⟨(q_pre [.ref t0, .int n1, .int n2, .int n3] hPc hDc hK hS hT hFc).1, va_recv hK hP (ci := 6) (q0 := 1) rfl rfl, (q_pre [.ref t0, .int n1, .int n2, .int n3] hPc hDc hK hS hT hFc).2⟩ rfl rfl hl.1 rfl (lv_room (Nat.le_of_ble_eq_true rfl)) dX7_setGround_7 ⟨Nat.le_of_ble_eq_true rfl, Nat.le_of_ble_eq_true rfl⟩) hP hD hS hFc [1, 2, 3] [0, 4, 5] rfl rfl (by decide) (by decide) (fun r9 u9 H locs hw hP hD hS => ?_)
  try dsimp only at hw
  rcases hw with ⟨f_1, c_2, rfl, rfl⟩ | ⟨c_3, rfl, rfl⟩
  · have hP : va_P g.1 CLS [(x0, .inr (8, [.ref t0, .ref u0, .ref k0])), (k0, .inr (7, [.ref kr, .int 0])), (kr, .inl (g.2.1 1, 128, .inl fk)), (t0, .inr (6, [.ref th, .ref ts, .ref tg, .ref td, .int 0, .ref tr, .int (-1), .int 0, .int 0, .int 0, .long 0, .int 0, .int 0])), (tg, .inr (3, [.ref tc])), (tc, .inl (g.2.1 0, 64, .inl f_1))] H := hP
    have hD : va_D A [(x0, .inr (8, [.ref t0, .ref u0, .ref k0])), (k0, .inr (7, [.ref kr, .int 0])), (kr, .inl (g.2.1 1, 128, .inl fk)), (t0, .inr (6, [.ref th, .ref ts, .ref tg, .ref td, .int 0, .ref tr, .int (-1), .int 0, .int 0, .int 0, .long 0, .int 0, .int 0])), (tg, .inr (3, [.ref tc])), (tc, .inl (g.2.1 0, 64, .inl f_1))] := hD
    refine W.widen (k := 0) (n := 0) (Nat.le_of_ble_eq_true rfl) (Nat.le_of_ble_eq_true rfl) ?_
    have hPc := hP.sub (ws' := []) [] rfl
    have hDc := hD.sub (ws' := []) [] (by decide) rfl
    have hFc := va_free (wc := []) hD hS hA [] rfl
    refine q_ci (wr := [(x0, .inr (8, [.ref t0, .ref u0, .ref k0])), (k0, .inr (7, [.ref kr, .int 0])), (kr, .inl (g.2.1 1, 128, .inl fk)), (t0, .inr (6, [.ref th, .ref ts, .ref tg, .ref td, .int 0, .ref tr, .int (-1), .int 0, .int 0, .int 0, .long 0, .int 0, .int 0])), (tg, .inr (3, [.ref tc])), (tc, .inl (g.2.1 0, 64, .inl f_1))]) (va_runS (As := [.int 46]) (rest := []) ⟨hx, hb, hml, hown, htg⟩ (c_ans_val l hfl g 46 (by decide) (by decide) (by decide) (by decide) (by decide) H.size) ⟨(qB htg k827 k50 k825 ok_X7_answered rfl rfl ⟨Nat.le_of_ble_eq_true rfl, Nat.le_of_ble_eq_true rfl⟩), htg _ k826⟩ (q_pre [.int 46] hPc hDc hK hS hT hFc) rfl rfl hl.1 rfl (lv_room (Nat.le_of_ble_eq_true rfl)) dX7_setGround_10 ⟨Nat.le_of_ble_eq_true rfl, Nat.le_of_ble_eq_true rfl⟩) hP hD hS hFc [] [0, 1, 2, 3, 4, 5] rfl rfl (by decide) (by decide) (fun r9 u9 H locs hw hP hD hS => ?_)
    try dsimp only at hw
    rcases hw with ⟨rfl, rfl⟩
    have hP : va_P g.1 CLS [(x0, .inr (8, [.ref t0, .ref u0, .ref k0])), (k0, .inr (7, [.ref kr, .int 0])), (kr, .inl (g.2.1 1, 128, .inl fk)), (t0, .inr (6, [.ref th, .ref ts, .ref tg, .ref td, .int 0, .ref tr, .int (-1), .int 0, .int 0, .int 0, .long 0, .int 0, .int 0])), (tg, .inr (3, [.ref tc])), (tc, .inl (g.2.1 0, 64, .inl f_1))] H := hP
    have hD : va_D A [(x0, .inr (8, [.ref t0, .ref u0, .ref k0])), (k0, .inr (7, [.ref kr, .int 0])), (kr, .inl (g.2.1 1, 128, .inl fk)), (t0, .inr (6, [.ref th, .ref ts, .ref tg, .ref td, .int 0, .ref tr, .int (-1), .int 0, .int 0, .int 0, .long 0, .int 0, .int 0])), (tg, .inr (3, [.ref tc])), (tc, .inl (g.2.1 0, 64, .inl f_1))] := hD
    refine W.widen (k := 0) (n := 0) (Nat.le_of_ble_eq_true rfl) (Nat.le_of_ble_eq_true rfl) ?_
    refine lv_istore (lv' := [(4, .int 46), (0, .ref x0), (1, .int n1), (2, .int n2), (3, .int n3)]) hx hb dX7_setGround_13 hl (by decide) rfl (fun ls hl => ?_)
    refine lv_aload_n hx hb dX7_setGround_15 rfl (lv_at hl 1 rfl) ?_
    refine va_get (D := g.1) (ci := 8) (v := .ref k0) (C := RX7) (T := TX7) (N := 3) hx hb htg inG_X7 hown hK hP 0 rfl rfl 2 (by decide) (htg _ k312) (fun _ h9 => h9) rfl dX7_setGround_16 ?_
    refine lv_iconst (v := 1) hx hb dX7_setGround_19 (by decide) ?_
    refine lv_iload_n hx hb dX7_setGround_20 rfl (lv_at hl 2 rfl) ?_
    refine lv_iload_n hx hb dX7_setGround_21 rfl (lv_at hl 3 rfl) ?_
    refine lv_iload_n hx hb dX7_setGround_22 rfl (lv_at hl 4 rfl) ?_
    refine lv_iconst (v := 0) hx hb dX7_setGround_23 (by decide) ?_
    refine lv_iconst (v := 0) hx hb dX7_setGround_24 (by decide) ?_
    refine lv_iconst (v := 0) hx hb dX7_setGround_25 (by decide) ?_
    have hPc := hP.sub (ws' := [(k0, .inr (7, [.ref kr, .int 0])), (kr, .inl (g.2.1 1, 128, .inl fk))]) [1, 2] rfl
    have hDc := hD.sub (ws' := [(k0, .inr (7, [.ref kr, .int 0])), (kr, .inl (g.2.1 1, 128, .inl fk))]) [1, 2] (by decide) rfl
    have hFc := va_free (wc := [(k0, .inr (7, [.ref kr, .int 0])), (kr, .inl (g.2.1 1, 128, .inl fk))]) hD hS hA [1, 2] rfl
    refine q_cv (wr := [(x0, .inr (8, [.ref t0, .ref u0, .ref k0])), (t0, .inr (6, [.ref th, .ref ts, .ref tg, .ref td, .int 0, .ref tr, .int (-1), .int 0, .int 0, .int 0, .long 0, .int 0, .int 0])), (tg, .inr (3, [.ref tc])), (tc, .inl (g.2.1 0, 64, .inl f_1))]) (va_runV (As := [.int 1, .int n1, .int n2, .int n3, .int 0, .int 0, .int 0]) (rest := []) ⟨hx, hb, hml, hown, htg⟩ (c_X6_keep l hfl g k0 kr fk 1 n1 n2 n3 0 0 0  H.size) ⟨(qB htg k971 k56 k968 ok_X6_keep rfl rfl ⟨Nat.le_of_ble_eq_true rfl, Nat.le_of_ble_eq_true rfl⟩), htg _ k969, htg _ k970⟩ ⟨(q_pre [.ref k0, .int 1, .int n1, .int n2, .int n3, .int 0, .int 0, .int 0] hPc hDc hK hS hT hFc).1, va_recv hK hP (ci := 7) (q0 := 1) rfl rfl, (q_pre [.ref k0, .int 1, .int n1, .int n2, .int n3, .int 0, .int 0, .int 0] hPc hDc hK hS hT hFc).2⟩ rfl rfl hl.1 rfl (lv_room (Nat.le_of_ble_eq_true rfl)) dX7_setGround_26 ⟨Nat.le_of_ble_eq_true rfl, Nat.le_of_ble_eq_true rfl⟩) hP hD hS hFc [1, 2] [0, 3, 4, 5] rfl rfl (by decide) (by decide) (fun u9 H locs hw hP hD hS => ?_)
    try dsimp only at hw
    rcases hw with ⟨f_4, rfl⟩
    have hP : va_P g.1 CLS [(x0, .inr (8, [.ref t0, .ref u0, .ref k0])), (t0, .inr (6, [.ref th, .ref ts, .ref tg, .ref td, .int 0, .ref tr, .int (-1), .int 0, .int 0, .int 0, .long 0, .int 0, .int 0])), (tg, .inr (3, [.ref tc])), (tc, .inl (g.2.1 0, 64, .inl f_1)), (k0, .inr (7, [.ref kr, .int 1])), (kr, .inl (g.2.1 1, 128, .inl f_4))] H := hP
    have hD : va_D A [(x0, .inr (8, [.ref t0, .ref u0, .ref k0])), (t0, .inr (6, [.ref th, .ref ts, .ref tg, .ref td, .int 0, .ref tr, .int (-1), .int 0, .int 0, .int 0, .long 0, .int 0, .int 0])), (tg, .inr (3, [.ref tc])), (tc, .inl (g.2.1 0, 64, .inl f_1)), (k0, .inr (7, [.ref kr, .int 1])), (kr, .inl (g.2.1 1, 128, .inl f_4))] := hD
    refine W.widen (k := 0) (n := 0) (Nat.le_of_ble_eq_true rfl) (Nat.le_of_ble_eq_true rfl) ?_
    refine lv_iload hx hb dX7_setGround_29 (lv_at hl 0 rfl) ?_
    refine lv_i2c (v := 46) hx hb dX7_setGround_31 (by decide) ?_
    have hP9 := hP.sub (ws' := []) [] rfl
    have hD9 := hD.sub (ws' := []) [] (by decide) rfl
    refine W.widen (k := 1) (n := 6) (Nat.le_of_ble_eq_true rfl) (Nat.le_of_ble_eq_true rfl) ?_
    refine vx_ret ?_
    exact W.zret (v := 46) hx hb hr rfl (fun t ht hW => ⟨⟨46, [], rfl, ⟨by assumption, rfl, rfl⟩, by rw [ht]; exact hP9, va_K.moved hW.alike hK, hD9⟩, hS.F ht⟩) hS.2.2 dX7_setGround_32
  · have hP : va_P g.1 CLS [(x0, .inr (8, [.ref t0, .ref u0, .ref k0])), (k0, .inr (7, [.ref kr, .int 0])), (kr, .inl (g.2.1 1, 128, .inl fk)), (t0, .inr (6, [.ref th, .ref ts, .ref tg, .ref td, .int 0, .ref tr, .int (-1), .int 0, .int 0, .int 0, .long 0, .int 0, .int 0])), (tg, .inr (3, [.ref tc])), (tc, .inl (g.2.1 0, 64, .inl fc))] H := hP
    have hD : va_D A [(x0, .inr (8, [.ref t0, .ref u0, .ref k0])), (k0, .inr (7, [.ref kr, .int 0])), (kr, .inl (g.2.1 1, 128, .inl fk)), (t0, .inr (6, [.ref th, .ref ts, .ref tg, .ref td, .int 0, .ref tr, .int (-1), .int 0, .int 0, .int 0, .long 0, .int 0, .int 0])), (tg, .inr (3, [.ref tc])), (tc, .inl (g.2.1 0, 64, .inl fc))] := hD
    refine W.widen (k := 0) (n := 0) (Nat.le_of_ble_eq_true rfl) (Nat.le_of_ble_eq_true rfl) ?_
    have hPc := hP.sub (ws' := []) [] rfl
    have hDc := hD.sub (ws' := []) [] (by decide) rfl
    have hFc := va_free (wc := []) hD hS hA [] rfl
    refine q_xi (wr := [(x0, .inr (8, [.ref t0, .ref u0, .ref k0])), (k0, .inr (7, [.ref kr, .int 0])), (kr, .inl (g.2.1 1, 128, .inl fk)), (t0, .inr (6, [.ref th, .ref ts, .ref tg, .ref td, .int 0, .ref tr, .int (-1), .int 0, .int 0, .int 0, .long 0, .int 0, .int 0])), (tg, .inr (3, [.ref tc])), (tc, .inl (g.2.1 0, 64, .inl fc))]) (vx_runS (As := [.int (-1000002)]) (rest := []) ⟨hx, hb, hml, hown, htg⟩ (c_ans_1000002 l hfl g   H.size) ⟨(qB htg k827 k50 k825 ok_X7_answered rfl rfl ⟨Nat.le_of_ble_eq_true rfl, Nat.le_of_ble_eq_true rfl⟩), htg _ k826⟩ (q_pre [.int (-1000002)] hPc hDc hK hS hT hFc) rfl rfl hl.1 rfl (lv_room (Nat.le_of_ble_eq_true rfl)) dX7_setGround_10 ⟨Nat.le_of_ble_eq_true rfl, Nat.le_of_ble_eq_true rfl⟩) hP hD hS hFc [] [0, 1, 2, 3, 4, 5] rfl rfl (by decide) (by decide) (fun E9 ce9 q9 H locs hpx hP hD hS hq1 hq2 hq3 => ?_) (fun r9 u9 H locs hw hP hD hS => ?_)
    · exact vx_out (hnoX _) B.notSynchronized hq1 hq2 hq3 (fun t ht hv => ⟨E9, ⟨hpx, c_3⟩, rfl, hS.F ht⟩) hS.2.2 (Nat.le_of_ble_eq_true rfl) (Nat.le_of_ble_eq_true rfl)
    · exact hw.elim

set_option maxHeartbeats 4000000 in
set_option maxRecDepth 100000 in
theorem c_X7_setBase (l : Launch) (hfl : l.stackTraces = false) (g : GP) (x0 : Nat) (t0 : Nat) (th : Nat) (ts : Nat) (tg : Nat) (td : Nat) (tr : Nat) (u0 : Nat) (k0 : Nat) (n1 : Int32) (n2 : Int32) (n3 : Int32)  : XI l yX7_setBase (wG yX7_setBase cX7_setBase 5 (Option.some Jvm.ClassFile.FieldType.int)) (LV 6 1 6) g [.ref x0, .int n1, .int n2, .int n3] ([(x0, .inr (8, [.ref t0, .ref u0, .ref k0])), (t0, .inr (6, [.ref th, .ref ts, .ref tg, .ref td, .int 0, .ref tr, .int (-1), .int 0, .int 0, .int 0, .long 0, .int 0, .int 0]))]) (fun (r : Int32) (u : va_W) => False) (fun E : String => (E = "java/lang/IndexOutOfBoundsException")) := by
  intro sz
  refine vx_ofW (cc := cX7_setBase) (maxL := 5) (ret := (Option.some Jvm.ClassFile.FieldType.int)) (by decide) rfl ?_
  intro p e s m args below meth c s₁ B hml hno hv
  have hnoX : ∀ (k : Nat), ∀ x ∈ c.exceptionTable.toList, covers x k = false := fun k x h => (hno x h).elim
  obtain ⟨rfl, hsz, hP, hK, hD0, hT0⟩ := hv
  have hx := B.exec
  have hb := B.bytes
  have hr := B.returns
  have hts := atoms_spec (ws := (wG yX7_setBase cX7_setBase 5 (Option.some Jvm.ClassFile.FieldType.int))) B.pre
  have htg : ∀ w ∈ G9, w.before _ s = true := fun w h => hts w (List.mem_cons_of_mem _ h)
  have hown : s.vm.findClass "HeroTable" = some m.cls := findClass_of_methodNamed B.named
  have hlocks := B.notSynchronized
  subst hsz
  have hD := hD0.self (sz := s.heap.size)
  have hT := hT0
  clear hT0
  generalize hAe : va_A [(x0, .inr (8, [.ref t0, .ref u0, .ref k0])), (t0, .inr (6, [.ref th, .ref ts, .ref tg, .ref td, .int 0, .ref tr, .int (-1), .int 0, .int 0, .int 0, .long 0, .int 0, .int 0]))] s.heap.size = A at hD hT ⊢
  have hA : ∀ q : Nat, s.heap.size ≤ q → A q := fun q h => by rw [← hAe]; exact Or.inr h
  obtain ⟨H, hH0⟩ : ∃ H, H = s.heap := ⟨_, rfl⟩
  have hS : va_S A s.heap H [] := by rw [hH0]; exact va_S.rf
  have hP : va_P g.1 CLS [(x0, .inr (8, [.ref t0, .ref u0, .ref k0])), (t0, .inr (6, [.ref th, .ref ts, .ref tg, .ref td, .int 0, .ref tr, .int (-1), .int 0, .int 0, .int 0, .long 0, .int 0, .int 0]))] H := by rw [hH0]; exact hP
  rw [← hH0]
  have hl := lv_entry ([.ref x0, .int n1, .int n2, .int n3]) (n := 5) (Nat.le_of_ble_eq_true rfl)
  rw [lg_entry_eq]
  generalize (lg_sl ([.ref x0, .int n1, .int n2, .int n3]) ++ List.replicate (5 - (lg_sl ([.ref x0, .int n1, .int n2, .int n3])).length) Slot.unset).toArray = ls at hl ⊢
  have hl : lv_has ls 5 [(0, .ref x0), (1, .int n1), (2, .int n2), (3, .int n3)] := hl
  refine lv_aload_n hx hb dX7_setBase_0 rfl (lv_at hl 0 rfl) ?_
  refine va_get (D := g.1) (ci := 8) (v := .ref t0) (C := RX7) (T := TX7) (N := 3) hx hb htg inG_X7 hown hK hP 0 rfl rfl 0 (by decide) (htg _ k310) (fun _ h9 => h9) rfl dX7_setBase_1 ?_
  refine lv_iload_n hx hb dX7_setBase_4 rfl (lv_at hl 1 rfl) ?_
  refine lv_iload_n hx hb dX7_setBase_5 rfl (lv_at hl 2 rfl) ?_
  refine lv_iload_n hx hb dX7_setBase_6 rfl (lv_at hl 3 rfl) ?_
  have hPc := hP.sub (ws' := [(t0, .inr (6, [.ref th, .ref ts, .ref tg, .ref td, .int 0, .ref tr, .int (-1), .int 0, .int 0, .int 0, .long 0, .int 0, .int 0]))]) [1] rfl
  have hDc := hD.sub (ws' := [(t0, .inr (6, [.ref th, .ref ts, .ref tg, .ref td, .int 0, .ref tr, .int (-1), .int 0, .int 0, .int 0, .long 0, .int 0, .int 0]))]) [1] (by decide) rfl
  have hFc := va_free (wc := [(t0, .inr (6, [.ref th, .ref ts, .ref tg, .ref td, .int 0, .ref tr, .int (-1), .int 0, .int 0, .int 0, .long 0, .int 0, .int 0]))]) hD hS hA [1] rfl
  refine q_ci (wr := [(x0, .inr (8, [.ref t0, .ref u0, .ref k0]))]) (va_runV (As := [.int n1, .int n2, .int n3]) (rest := []) ⟨hx, hb, hml, hown, htg⟩ (c_X5_changeBase l hfl g t0 th ts tg td tr n1 n2 n3  H.size) ⟨(qB htg k518 k51 k1009 ok_X5_changeBase rfl rfl ⟨Nat.le_of_ble_eq_true rfl, Nat.le_of_ble_eq_true rfl⟩), htg _ k516, htg _ k517⟩ ⟨(q_pre [.ref t0, .int n1, .int n2, .int n3] hPc hDc hK hS hT hFc).1, va_recv hK hP (ci := 6) (q0 := 1) rfl rfl, (q_pre [.ref t0, .int n1, .int n2, .int n3] hPc hDc hK hS hT hFc).2⟩ rfl rfl hl.1 rfl (lv_room (Nat.le_of_ble_eq_true rfl)) dX7_setBase_7 ⟨Nat.le_of_ble_eq_true rfl, Nat.le_of_ble_eq_true rfl⟩) hP hD hS hFc [1] [0] rfl rfl (by decide) (by decide) (fun r9 u9 H locs hw hP hD hS => ?_)
  try dsimp only at hw
  rcases hw with ⟨rfl, rfl⟩
  have hP : va_P g.1 CLS [(x0, .inr (8, [.ref t0, .ref u0, .ref k0])), (t0, .inr (6, [.ref th, .ref ts, .ref tg, .ref td, .int 0, .ref tr, .int (-1), .int 0, .int 0, .int 0, .long 0, .int 0, .int 0]))] H := hP
  have hD : va_D A [(x0, .inr (8, [.ref t0, .ref u0, .ref k0])), (t0, .inr (6, [.ref th, .ref ts, .ref tg, .ref td, .int 0, .ref tr, .int (-1), .int 0, .int 0, .int 0, .long 0, .int 0, .int 0]))] := hD
  refine W.widen (k := 0) (n := 0) (Nat.le_of_ble_eq_true rfl) (Nat.le_of_ble_eq_true rfl) ?_
  have hPc := hP.sub (ws' := []) [] rfl
  have hDc := hD.sub (ws' := []) [] (by decide) rfl
  have hFc := va_free (wc := []) hD hS hA [] rfl
  refine q_xi (wr := [(x0, .inr (8, [.ref t0, .ref u0, .ref k0])), (t0, .inr (6, [.ref th, .ref ts, .ref tg, .ref td, .int 0, .ref tr, .int (-1), .int 0, .int 0, .int 0, .long 0, .int 0, .int 0]))]) (vx_runS (As := [.int (-1000001)]) (rest := []) ⟨hx, hb, hml, hown, htg⟩ (c_ans_1000001 l hfl g   H.size) ⟨(qB htg k827 k50 k825 ok_X7_answered rfl rfl ⟨Nat.le_of_ble_eq_true rfl, Nat.le_of_ble_eq_true rfl⟩), htg _ k826⟩ (q_pre [.int (-1000001)] hPc hDc hK hS hT hFc) rfl rfl hl.1 rfl (lv_room (Nat.le_of_ble_eq_true rfl)) dX7_setBase_10 ⟨Nat.le_of_ble_eq_true rfl, Nat.le_of_ble_eq_true rfl⟩) hP hD hS hFc [] [0, 1] rfl rfl (by decide) (by decide) (fun E9 ce9 q9 H locs hpx hP hD hS hq1 hq2 hq3 => ?_) (fun r9 u9 H locs hw hP hD hS => ?_)
  · exact vx_out (hnoX _) B.notSynchronized hq1 hq2 hq3 (fun t ht hv => ⟨E9, hpx, rfl, hS.F ht⟩) hS.2.2 (Nat.le_of_ble_eq_true rfl) (Nat.le_of_ble_eq_true rfl)
  · exact hw.elim

set_option maxHeartbeats 4000000 in
set_option maxRecDepth 100000 in
theorem c_X7_setSpare (l : Launch) (hfl : l.stackTraces = false) (g : GP) (x0 : Nat) (t0 : Nat) (th : Nat) (ts : Nat) (tg : Nat) (td : Nat) (tr : Nat) (u0 : Nat) (k0 : Nat) (n1 : Int32) (n2 : Int32)  : XI l yX7_setSpare (wG yX7_setSpare cX7_setSpare 4 (Option.some Jvm.ClassFile.FieldType.int)) (LV 6 1 6) g [.ref x0, .int n1, .int n2] ([(x0, .inr (8, [.ref t0, .ref u0, .ref k0])), (t0, .inr (6, [.ref th, .ref ts, .ref tg, .ref td, .int 0, .ref tr, .int (-1), .int 0, .int 0, .int 0, .long 0, .int 0, .int 0]))]) (fun (r : Int32) (u : va_W) => False) (fun E : String => (E = "java/lang/IndexOutOfBoundsException")) := by
  intro sz
  refine vx_ofW (cc := cX7_setSpare) (maxL := 4) (ret := (Option.some Jvm.ClassFile.FieldType.int)) (by decide) rfl ?_
  intro p e s m args below meth c s₁ B hml hno hv
  have hnoX : ∀ (k : Nat), ∀ x ∈ c.exceptionTable.toList, covers x k = false := fun k x h => (hno x h).elim
  obtain ⟨rfl, hsz, hP, hK, hD0, hT0⟩ := hv
  have hx := B.exec
  have hb := B.bytes
  have hr := B.returns
  have hts := atoms_spec (ws := (wG yX7_setSpare cX7_setSpare 4 (Option.some Jvm.ClassFile.FieldType.int))) B.pre
  have htg : ∀ w ∈ G9, w.before _ s = true := fun w h => hts w (List.mem_cons_of_mem _ h)
  have hown : s.vm.findClass "HeroTable" = some m.cls := findClass_of_methodNamed B.named
  have hlocks := B.notSynchronized
  subst hsz
  have hD := hD0.self (sz := s.heap.size)
  have hT := hT0
  clear hT0
  generalize hAe : va_A [(x0, .inr (8, [.ref t0, .ref u0, .ref k0])), (t0, .inr (6, [.ref th, .ref ts, .ref tg, .ref td, .int 0, .ref tr, .int (-1), .int 0, .int 0, .int 0, .long 0, .int 0, .int 0]))] s.heap.size = A at hD hT ⊢
  have hA : ∀ q : Nat, s.heap.size ≤ q → A q := fun q h => by rw [← hAe]; exact Or.inr h
  obtain ⟨H, hH0⟩ : ∃ H, H = s.heap := ⟨_, rfl⟩
  have hS : va_S A s.heap H [] := by rw [hH0]; exact va_S.rf
  have hP : va_P g.1 CLS [(x0, .inr (8, [.ref t0, .ref u0, .ref k0])), (t0, .inr (6, [.ref th, .ref ts, .ref tg, .ref td, .int 0, .ref tr, .int (-1), .int 0, .int 0, .int 0, .long 0, .int 0, .int 0]))] H := by rw [hH0]; exact hP
  rw [← hH0]
  have hl := lv_entry ([.ref x0, .int n1, .int n2]) (n := 4) (Nat.le_of_ble_eq_true rfl)
  rw [lg_entry_eq]
  generalize (lg_sl ([.ref x0, .int n1, .int n2]) ++ List.replicate (4 - (lg_sl ([.ref x0, .int n1, .int n2])).length) Slot.unset).toArray = ls at hl ⊢
  have hl : lv_has ls 4 [(0, .ref x0), (1, .int n1), (2, .int n2)] := hl
  refine lv_aload_n hx hb dX7_setSpare_0 rfl (lv_at hl 0 rfl) ?_
  refine va_get (D := g.1) (ci := 8) (v := .ref t0) (C := RX7) (T := TX7) (N := 3) hx hb htg inG_X7 hown hK hP 0 rfl rfl 0 (by decide) (htg _ k310) (fun _ h9 => h9) rfl dX7_setSpare_1 ?_
  refine lv_iload_n hx hb dX7_setSpare_4 rfl (lv_at hl 1 rfl) ?_
  refine lv_iload_n hx hb dX7_setSpare_5 rfl (lv_at hl 2 rfl) ?_
  have hPc := hP.sub (ws' := [(t0, .inr (6, [.ref th, .ref ts, .ref tg, .ref td, .int 0, .ref tr, .int (-1), .int 0, .int 0, .int 0, .long 0, .int 0, .int 0]))]) [1] rfl
  have hDc := hD.sub (ws' := [(t0, .inr (6, [.ref th, .ref ts, .ref tg, .ref td, .int 0, .ref tr, .int (-1), .int 0, .int 0, .int 0, .long 0, .int 0, .int 0]))]) [1] (by decide) rfl
  have hFc := va_free (wc := [(t0, .inr (6, [.ref th, .ref ts, .ref tg, .ref td, .int 0, .ref tr, .int (-1), .int 0, .int 0, .int 0, .long 0, .int 0, .int 0]))]) hD hS hA [1] rfl
  refine q_ci (wr := [(x0, .inr (8, [.ref t0, .ref u0, .ref k0]))]) (va_runV (As := [.int n1, .int n2]) (rest := []) ⟨hx, hb, hml, hown, htg⟩ (c_X5_changeSpare l hfl g t0 th ts tg td tr n1 n2  H.size) ⟨(qB htg k528 k51 k1017 ok_X5_changeSpare rfl rfl ⟨Nat.le_of_ble_eq_true rfl, Nat.le_of_ble_eq_true rfl⟩), htg _ k526, htg _ k527⟩ ⟨(q_pre [.ref t0, .int n1, .int n2] hPc hDc hK hS hT hFc).1, va_recv hK hP (ci := 6) (q0 := 1) rfl rfl, (q_pre [.ref t0, .int n1, .int n2] hPc hDc hK hS hT hFc).2⟩ rfl rfl hl.1 rfl (lv_room (Nat.le_of_ble_eq_true rfl)) dX7_setSpare_6 ⟨Nat.le_of_ble_eq_true rfl, Nat.le_of_ble_eq_true rfl⟩) hP hD hS hFc [1] [0] rfl rfl (by decide) (by decide) (fun r9 u9 H locs hw hP hD hS => ?_)
  try dsimp only at hw
  rcases hw with ⟨rfl, rfl⟩
  have hP : va_P g.1 CLS [(x0, .inr (8, [.ref t0, .ref u0, .ref k0])), (t0, .inr (6, [.ref th, .ref ts, .ref tg, .ref td, .int 0, .ref tr, .int (-1), .int 0, .int 0, .int 0, .long 0, .int 0, .int 0]))] H := hP
  have hD : va_D A [(x0, .inr (8, [.ref t0, .ref u0, .ref k0])), (t0, .inr (6, [.ref th, .ref ts, .ref tg, .ref td, .int 0, .ref tr, .int (-1), .int 0, .int 0, .int 0, .long 0, .int 0, .int 0]))] := hD
  refine W.widen (k := 0) (n := 0) (Nat.le_of_ble_eq_true rfl) (Nat.le_of_ble_eq_true rfl) ?_
  have hPc := hP.sub (ws' := []) [] rfl
  have hDc := hD.sub (ws' := []) [] (by decide) rfl
  have hFc := va_free (wc := []) hD hS hA [] rfl
  refine q_xi (wr := [(x0, .inr (8, [.ref t0, .ref u0, .ref k0])), (t0, .inr (6, [.ref th, .ref ts, .ref tg, .ref td, .int 0, .ref tr, .int (-1), .int 0, .int 0, .int 0, .long 0, .int 0, .int 0]))]) (vx_runS (As := [.int (-1000001)]) (rest := []) ⟨hx, hb, hml, hown, htg⟩ (c_ans_1000001 l hfl g   H.size) ⟨(qB htg k827 k50 k825 ok_X7_answered rfl rfl ⟨Nat.le_of_ble_eq_true rfl, Nat.le_of_ble_eq_true rfl⟩), htg _ k826⟩ (q_pre [.int (-1000001)] hPc hDc hK hS hT hFc) rfl rfl hl.1 rfl (lv_room (Nat.le_of_ble_eq_true rfl)) dX7_setSpare_9 ⟨Nat.le_of_ble_eq_true rfl, Nat.le_of_ble_eq_true rfl⟩) hP hD hS hFc [] [0, 1] rfl rfl (by decide) (by decide) (fun E9 ce9 q9 H locs hpx hP hD hS hq1 hq2 hq3 => ?_) (fun r9 u9 H locs hw hP hD hS => ?_)
  · exact vx_out (hnoX _) B.notSynchronized hq1 hq2 hq3 (fun t ht hv => ⟨E9, hpx, rfl, hS.F ht⟩) hS.2.2 (Nat.le_of_ble_eq_true rfl) (Nat.le_of_ble_eq_true rfl)
  · exact hw.elim

set_option maxHeartbeats 4000000 in
set_option maxRecDepth 100000 in
theorem c_X7_heal (l : Launch) (hfl : l.stackTraces = false) (g : GP) (x0 : Nat) (t0 : Nat) (th : Nat) (ts : Nat) (tg : Nat) (td : Nat) (tr : Nat) (u0 : Nat) (k0 : Nat) (n1 : Int32) (n2 : Int32)  : XI l yX7_heal (wG yX7_heal cX7_heal 4 (Option.some Jvm.ClassFile.FieldType.int)) (LV 6 1 6) g [.ref x0, .int n1, .int n2] ([(x0, .inr (8, [.ref t0, .ref u0, .ref k0])), (t0, .inr (6, [.ref th, .ref ts, .ref tg, .ref td, .int 0, .ref tr, .int (-1), .int 0, .int 0, .int 0, .long 0, .int 0, .int 0]))]) (fun (r : Int32) (u : va_W) => False) (fun E : String => (E = "java/lang/IndexOutOfBoundsException")) := by
  intro sz
  refine vx_ofW (cc := cX7_heal) (maxL := 4) (ret := (Option.some Jvm.ClassFile.FieldType.int)) (by decide) rfl ?_
  intro p e s m args below meth c s₁ B hml hno hv
  have hnoX : ∀ (k : Nat), ∀ x ∈ c.exceptionTable.toList, covers x k = false := fun k x h => (hno x h).elim
  obtain ⟨rfl, hsz, hP, hK, hD0, hT0⟩ := hv
  have hx := B.exec
  have hb := B.bytes
  have hr := B.returns
  have hts := atoms_spec (ws := (wG yX7_heal cX7_heal 4 (Option.some Jvm.ClassFile.FieldType.int))) B.pre
  have htg : ∀ w ∈ G9, w.before _ s = true := fun w h => hts w (List.mem_cons_of_mem _ h)
  have hown : s.vm.findClass "HeroTable" = some m.cls := findClass_of_methodNamed B.named
  have hlocks := B.notSynchronized
  subst hsz
  have hD := hD0.self (sz := s.heap.size)
  have hT := hT0
  clear hT0
  generalize hAe : va_A [(x0, .inr (8, [.ref t0, .ref u0, .ref k0])), (t0, .inr (6, [.ref th, .ref ts, .ref tg, .ref td, .int 0, .ref tr, .int (-1), .int 0, .int 0, .int 0, .long 0, .int 0, .int 0]))] s.heap.size = A at hD hT ⊢
  have hA : ∀ q : Nat, s.heap.size ≤ q → A q := fun q h => by rw [← hAe]; exact Or.inr h
  obtain ⟨H, hH0⟩ : ∃ H, H = s.heap := ⟨_, rfl⟩
  have hS : va_S A s.heap H [] := by rw [hH0]; exact va_S.rf
  have hP : va_P g.1 CLS [(x0, .inr (8, [.ref t0, .ref u0, .ref k0])), (t0, .inr (6, [.ref th, .ref ts, .ref tg, .ref td, .int 0, .ref tr, .int (-1), .int 0, .int 0, .int 0, .long 0, .int 0, .int 0]))] H := by rw [hH0]; exact hP
  rw [← hH0]
  have hl := lv_entry ([.ref x0, .int n1, .int n2]) (n := 4) (Nat.le_of_ble_eq_true rfl)
  rw [lg_entry_eq]
  generalize (lg_sl ([.ref x0, .int n1, .int n2]) ++ List.replicate (4 - (lg_sl ([.ref x0, .int n1, .int n2])).length) Slot.unset).toArray = ls at hl ⊢
  have hl : lv_has ls 4 [(0, .ref x0), (1, .int n1), (2, .int n2)] := hl
  refine lv_aload_n hx hb dX7_heal_0 rfl (lv_at hl 0 rfl) ?_
  refine va_get (D := g.1) (ci := 8) (v := .ref t0) (C := RX7) (T := TX7) (N := 3) hx hb htg inG_X7 hown hK hP 0 rfl rfl 0 (by decide) (htg _ k310) (fun _ h9 => h9) rfl dX7_heal_1 ?_
  refine lv_iload_n hx hb dX7_heal_4 rfl (lv_at hl 1 rfl) ?_
  refine lv_iload_n hx hb dX7_heal_5 rfl (lv_at hl 2 rfl) ?_
  have hPc := hP.sub (ws' := [(t0, .inr (6, [.ref th, .ref ts, .ref tg, .ref td, .int 0, .ref tr, .int (-1), .int 0, .int 0, .int 0, .long 0, .int 0, .int 0]))]) [1] rfl
  have hDc := hD.sub (ws' := [(t0, .inr (6, [.ref th, .ref ts, .ref tg, .ref td, .int 0, .ref tr, .int (-1), .int 0, .int 0, .int 0, .long 0, .int 0, .int 0]))]) [1] (by decide) rfl
  have hFc := va_free (wc := [(t0, .inr (6, [.ref th, .ref ts, .ref tg, .ref td, .int 0, .ref tr, .int (-1), .int 0, .int 0, .int 0, .long 0, .int 0, .int 0]))]) hD hS hA [1] rfl
  refine q_ci (wr := [(x0, .inr (8, [.ref t0, .ref u0, .ref k0]))]) (va_runV (As := [.int n1, .int n2]) (rest := []) ⟨hx, hb, hml, hown, htg⟩ (c_X5_mend l hfl g t0 th ts tg td tr n1 n2  H.size) ⟨(qB htg k532 k51 k1025 ok_X5_mend rfl rfl ⟨Nat.le_of_ble_eq_true rfl, Nat.le_of_ble_eq_true rfl⟩), htg _ k530, htg _ k531⟩ ⟨(q_pre [.ref t0, .int n1, .int n2] hPc hDc hK hS hT hFc).1, va_recv hK hP (ci := 6) (q0 := 1) rfl rfl, (q_pre [.ref t0, .int n1, .int n2] hPc hDc hK hS hT hFc).2⟩ rfl rfl hl.1 rfl (lv_room (Nat.le_of_ble_eq_true rfl)) dX7_heal_6 ⟨Nat.le_of_ble_eq_true rfl, Nat.le_of_ble_eq_true rfl⟩) hP hD hS hFc [1] [0] rfl rfl (by decide) (by decide) (fun r9 u9 H locs hw hP hD hS => ?_)
  try dsimp only at hw
  rcases hw with ⟨rfl, rfl⟩
  have hP : va_P g.1 CLS [(x0, .inr (8, [.ref t0, .ref u0, .ref k0])), (t0, .inr (6, [.ref th, .ref ts, .ref tg, .ref td, .int 0, .ref tr, .int (-1), .int 0, .int 0, .int 0, .long 0, .int 0, .int 0]))] H := hP
  have hD : va_D A [(x0, .inr (8, [.ref t0, .ref u0, .ref k0])), (t0, .inr (6, [.ref th, .ref ts, .ref tg, .ref td, .int 0, .ref tr, .int (-1), .int 0, .int 0, .int 0, .long 0, .int 0, .int 0]))] := hD
  refine W.widen (k := 0) (n := 0) (Nat.le_of_ble_eq_true rfl) (Nat.le_of_ble_eq_true rfl) ?_
  have hPc := hP.sub (ws' := []) [] rfl
  have hDc := hD.sub (ws' := []) [] (by decide) rfl
  have hFc := va_free (wc := []) hD hS hA [] rfl
  refine q_xi (wr := [(x0, .inr (8, [.ref t0, .ref u0, .ref k0])), (t0, .inr (6, [.ref th, .ref ts, .ref tg, .ref td, .int 0, .ref tr, .int (-1), .int 0, .int 0, .int 0, .long 0, .int 0, .int 0]))]) (vx_runS (As := [.int (-1000001)]) (rest := []) ⟨hx, hb, hml, hown, htg⟩ (c_ans_1000001 l hfl g   H.size) ⟨(qB htg k827 k50 k825 ok_X7_answered rfl rfl ⟨Nat.le_of_ble_eq_true rfl, Nat.le_of_ble_eq_true rfl⟩), htg _ k826⟩ (q_pre [.int (-1000001)] hPc hDc hK hS hT hFc) rfl rfl hl.1 rfl (lv_room (Nat.le_of_ble_eq_true rfl)) dX7_heal_9 ⟨Nat.le_of_ble_eq_true rfl, Nat.le_of_ble_eq_true rfl⟩) hP hD hS hFc [] [0, 1] rfl rfl (by decide) (by decide) (fun E9 ce9 q9 H locs hpx hP hD hS hq1 hq2 hq3 => ?_) (fun r9 u9 H locs hw hP hD hS => ?_)
  · exact vx_out (hnoX _) B.notSynchronized hq1 hq2 hq3 (fun t ht hv => ⟨E9, hpx, rfl, hS.F ht⟩) hS.2.2 (Nat.le_of_ble_eq_true rfl) (Nat.le_of_ble_eq_true rfl)
  · exact hw.elim

set_option maxHeartbeats 4000000 in
set_option maxRecDepth 100000 in
theorem c_X7_lifeOf (l : Launch) (hfl : l.stackTraces = false) (g : GP) (x0 : Nat) (t0 : Nat) (th : Nat) (ts : Nat) (tg : Nat) (td : Nat) (tr : Nat) (u0 : Nat) (k0 : Nat) (n1 : Int32)  : XI l yX7_lifeOf (wG yX7_lifeOf cX7_lifeOf 2 (Option.some Jvm.ClassFile.FieldType.int)) (LV 6 1 6) g [.ref x0, .int n1] ([(x0, .inr (8, [.ref t0, .ref u0, .ref k0])), (t0, .inr (6, [.ref th, .ref ts, .ref tg, .ref td, .int 0, .ref tr, .int (-1), .int 0, .int 0, .int 0, .long 0, .int 0, .int 0]))]) (fun (r : Int32) (u : va_W) => False) (fun E : String => (E = "java/lang/IndexOutOfBoundsException")) := by
  intro sz
  refine vx_ofW (cc := cX7_lifeOf) (maxL := 2) (ret := (Option.some Jvm.ClassFile.FieldType.int)) (by decide) rfl ?_
  intro p e s m args below meth c s₁ B hml hno hv
  have hnoX : ∀ (k : Nat), ∀ x ∈ c.exceptionTable.toList, covers x k = false := fun k x h => (hno x h).elim
  obtain ⟨rfl, hsz, hP, hK, hD0, hT0⟩ := hv
  have hx := B.exec
  have hb := B.bytes
  have hr := B.returns
  have hts := atoms_spec (ws := (wG yX7_lifeOf cX7_lifeOf 2 (Option.some Jvm.ClassFile.FieldType.int))) B.pre
  have htg : ∀ w ∈ G9, w.before _ s = true := fun w h => hts w (List.mem_cons_of_mem _ h)
  have hown : s.vm.findClass "HeroTable" = some m.cls := findClass_of_methodNamed B.named
  have hlocks := B.notSynchronized
  subst hsz
  have hD := hD0.self (sz := s.heap.size)
  have hT := hT0
  clear hT0
  generalize hAe : va_A [(x0, .inr (8, [.ref t0, .ref u0, .ref k0])), (t0, .inr (6, [.ref th, .ref ts, .ref tg, .ref td, .int 0, .ref tr, .int (-1), .int 0, .int 0, .int 0, .long 0, .int 0, .int 0]))] s.heap.size = A at hD hT ⊢
  have hA : ∀ q : Nat, s.heap.size ≤ q → A q := fun q h => by rw [← hAe]; exact Or.inr h
  obtain ⟨H, hH0⟩ : ∃ H, H = s.heap := ⟨_, rfl⟩
  have hS : va_S A s.heap H [] := by rw [hH0]; exact va_S.rf
  have hP : va_P g.1 CLS [(x0, .inr (8, [.ref t0, .ref u0, .ref k0])), (t0, .inr (6, [.ref th, .ref ts, .ref tg, .ref td, .int 0, .ref tr, .int (-1), .int 0, .int 0, .int 0, .long 0, .int 0, .int 0]))] H := by rw [hH0]; exact hP
  rw [← hH0]
  have hl := lv_entry ([.ref x0, .int n1]) (n := 2) (Nat.le_of_ble_eq_true rfl)
  rw [lg_entry_eq]
  generalize (lg_sl ([.ref x0, .int n1]) ++ List.replicate (2 - (lg_sl ([.ref x0, .int n1])).length) Slot.unset).toArray = ls at hl ⊢
  have hl : lv_has ls 2 [(0, .ref x0), (1, .int n1)] := hl
  refine lv_aload_n hx hb dX7_lifeOf_0 rfl (lv_at hl 0 rfl) ?_
  refine lv_iload_n hx hb dX7_lifeOf_1 rfl (lv_at hl 1 rfl) ?_
  have hPc := hP.sub (ws' := [(x0, .inr (8, [.ref t0, .ref u0, .ref k0])), (t0, .inr (6, [.ref th, .ref ts, .ref tg, .ref td, .int 0, .ref tr, .int (-1), .int 0, .int 0, .int 0, .long 0, .int 0, .int 0]))]) [0, 1] rfl
  have hDc := hD.sub (ws' := [(x0, .inr (8, [.ref t0, .ref u0, .ref k0])), (t0, .inr (6, [.ref th, .ref ts, .ref tg, .ref td, .int 0, .ref tr, .int (-1), .int 0, .int 0, .int 0, .long 0, .int 0, .int 0]))]) [0, 1] (by decide) rfl
  have hFc := va_free (wc := [(x0, .inr (8, [.ref t0, .ref u0, .ref k0])), (t0, .inr (6, [.ref th, .ref ts, .ref tg, .ref td, .int 0, .ref tr, .int (-1), .int 0, .int 0, .int 0, .long 0, .int 0, .int 0]))]) hD hS hA [0, 1] rfl
  refine q_xi (wr := []) (vx_runV (As := [.int n1]) (rest := []) ⟨hx, hb, hml, hown, htg⟩ (c_X7_knownHero l hfl g x0 t0 th ts tg td tr u0 k0 n1  H.size) ⟨(qB htg k1036 k50 k1033 ok_X7_knownHero rfl rfl ⟨Nat.le_of_ble_eq_true rfl, Nat.le_of_ble_eq_true rfl⟩), htg _ k1035, htg _ k16⟩ ⟨(q_pre [.ref x0, .int n1] hPc hDc hK hS hT hFc).1, va_recv hK hP (ci := 8) (q0 := 0) rfl rfl, (q_pre [.ref x0, .int n1] hPc hDc hK hS hT hFc).2⟩ rfl rfl hl.1 rfl (lv_room (Nat.le_of_ble_eq_true rfl)) dX7_lifeOf_2 ⟨Nat.le_of_ble_eq_true rfl, Nat.le_of_ble_eq_true rfl⟩) hP hD hS hFc [0, 1] [] rfl rfl (by decide) (by decide) (fun E9 ce9 q9 H locs hpx hP hD hS hq1 hq2 hq3 => ?_) (fun r9 u9 H locs hw hP hD hS => ?_)
  · exact vx_out (hnoX _) B.notSynchronized hq1 hq2 hq3 (fun t ht hv => ⟨E9, hpx, rfl, hS.F ht⟩) hS.2.2 (Nat.le_of_ble_eq_true rfl) (Nat.le_of_ble_eq_true rfl)
  · exact hw.elim

set_option maxHeartbeats 4000000 in
set_option maxRecDepth 100000 in
theorem c_X7_spareOf (l : Launch) (hfl : l.stackTraces = false) (g : GP) (x0 : Nat) (t0 : Nat) (th : Nat) (ts : Nat) (tg : Nat) (td : Nat) (tr : Nat) (u0 : Nat) (k0 : Nat) (n1 : Int32)  : XI l yX7_spareOf (wG yX7_spareOf cX7_spareOf 2 (Option.some Jvm.ClassFile.FieldType.int)) (LV 6 1 6) g [.ref x0, .int n1] ([(x0, .inr (8, [.ref t0, .ref u0, .ref k0])), (t0, .inr (6, [.ref th, .ref ts, .ref tg, .ref td, .int 0, .ref tr, .int (-1), .int 0, .int 0, .int 0, .long 0, .int 0, .int 0]))]) (fun (r : Int32) (u : va_W) => False) (fun E : String => (E = "java/lang/IndexOutOfBoundsException")) := by
  intro sz
  refine vx_ofW (cc := cX7_spareOf) (maxL := 2) (ret := (Option.some Jvm.ClassFile.FieldType.int)) (by decide) rfl ?_
  intro p e s m args below meth c s₁ B hml hno hv
  have hnoX : ∀ (k : Nat), ∀ x ∈ c.exceptionTable.toList, covers x k = false := fun k x h => (hno x h).elim
  obtain ⟨rfl, hsz, hP, hK, hD0, hT0⟩ := hv
  have hx := B.exec
  have hb := B.bytes
  have hr := B.returns
  have hts := atoms_spec (ws := (wG yX7_spareOf cX7_spareOf 2 (Option.some Jvm.ClassFile.FieldType.int))) B.pre
  have htg : ∀ w ∈ G9, w.before _ s = true := fun w h => hts w (List.mem_cons_of_mem _ h)
  have hown : s.vm.findClass "HeroTable" = some m.cls := findClass_of_methodNamed B.named
  have hlocks := B.notSynchronized
  subst hsz
  have hD := hD0.self (sz := s.heap.size)
  have hT := hT0
  clear hT0
  generalize hAe : va_A [(x0, .inr (8, [.ref t0, .ref u0, .ref k0])), (t0, .inr (6, [.ref th, .ref ts, .ref tg, .ref td, .int 0, .ref tr, .int (-1), .int 0, .int 0, .int 0, .long 0, .int 0, .int 0]))] s.heap.size = A at hD hT ⊢
  have hA : ∀ q : Nat, s.heap.size ≤ q → A q := fun q h => by rw [← hAe]; exact Or.inr h
  obtain ⟨H, hH0⟩ : ∃ H, H = s.heap := ⟨_, rfl⟩
  have hS : va_S A s.heap H [] := by rw [hH0]; exact va_S.rf
  have hP : va_P g.1 CLS [(x0, .inr (8, [.ref t0, .ref u0, .ref k0])), (t0, .inr (6, [.ref th, .ref ts, .ref tg, .ref td, .int 0, .ref tr, .int (-1), .int 0, .int 0, .int 0, .long 0, .int 0, .int 0]))] H := by rw [hH0]; exact hP
  rw [← hH0]
  have hl := lv_entry ([.ref x0, .int n1]) (n := 2) (Nat.le_of_ble_eq_true rfl)
  rw [lg_entry_eq]
  generalize (lg_sl ([.ref x0, .int n1]) ++ List.replicate (2 - (lg_sl ([.ref x0, .int n1])).length) Slot.unset).toArray = ls at hl ⊢
  have hl : lv_has ls 2 [(0, .ref x0), (1, .int n1)] := hl
  refine lv_aload_n hx hb dX7_spareOf_0 rfl (lv_at hl 0 rfl) ?_
  refine lv_iload_n hx hb dX7_spareOf_1 rfl (lv_at hl 1 rfl) ?_
  have hPc := hP.sub (ws' := [(x0, .inr (8, [.ref t0, .ref u0, .ref k0])), (t0, .inr (6, [.ref th, .ref ts, .ref tg, .ref td, .int 0, .ref tr, .int (-1), .int 0, .int 0, .int 0, .long 0, .int 0, .int 0]))]) [0, 1] rfl
  have hDc := hD.sub (ws' := [(x0, .inr (8, [.ref t0, .ref u0, .ref k0])), (t0, .inr (6, [.ref th, .ref ts, .ref tg, .ref td, .int 0, .ref tr, .int (-1), .int 0, .int 0, .int 0, .long 0, .int 0, .int 0]))]) [0, 1] (by decide) rfl
  have hFc := va_free (wc := [(x0, .inr (8, [.ref t0, .ref u0, .ref k0])), (t0, .inr (6, [.ref th, .ref ts, .ref tg, .ref td, .int 0, .ref tr, .int (-1), .int 0, .int 0, .int 0, .long 0, .int 0, .int 0]))]) hD hS hA [0, 1] rfl
  refine q_xi (wr := []) (vx_runV (As := [.int n1]) (rest := []) ⟨hx, hb, hml, hown, htg⟩ (c_X7_knownHero l hfl g x0 t0 th ts tg td tr u0 k0 n1  H.size) ⟨(qB htg k1036 k50 k1033 ok_X7_knownHero rfl rfl ⟨Nat.le_of_ble_eq_true rfl, Nat.le_of_ble_eq_true rfl⟩), htg _ k1035, htg _ k16⟩ ⟨(q_pre [.ref x0, .int n1] hPc hDc hK hS hT hFc).1, va_recv hK hP (ci := 8) (q0 := 0) rfl rfl, (q_pre [.ref x0, .int n1] hPc hDc hK hS hT hFc).2⟩ rfl rfl hl.1 rfl (lv_room (Nat.le_of_ble_eq_true rfl)) dX7_spareOf_2 ⟨Nat.le_of_ble_eq_true rfl, Nat.le_of_ble_eq_true rfl⟩) hP hD hS hFc [0, 1] [] rfl rfl (by decide) (by decide) (fun E9 ce9 q9 H locs hpx hP hD hS hq1 hq2 hq3 => ?_) (fun r9 u9 H locs hw hP hD hS => ?_)
  · exact vx_out (hnoX _) B.notSynchronized hq1 hq2 hq3 (fun t ht hv => ⟨E9, hpx, rfl, hS.F ht⟩) hS.2.2 (Nat.le_of_ble_eq_true rfl) (Nat.le_of_ble_eq_true rfl)
  · exact hw.elim

set_option maxHeartbeats 4000000 in
set_option maxRecDepth 100000 in
theorem c_X7_cellOf (l : Launch) (hfl : l.stackTraces = false) (g : GP) (x0 : Nat) (t0 : Nat) (th : Nat) (ts : Nat) (tg : Nat) (td : Nat) (tr : Nat) (u0 : Nat) (k0 : Nat) (n1 : Int32)  : XI l yX7_cellOf (wG yX7_cellOf cX7_cellOf 3 (Option.some Jvm.ClassFile.FieldType.int)) (LV 6 1 6) g [.ref x0, .int n1] ([(x0, .inr (8, [.ref t0, .ref u0, .ref k0])), (t0, .inr (6, [.ref th, .ref ts, .ref tg, .ref td, .int 0, .ref tr, .int (-1), .int 0, .int 0, .int 0, .long 0, .int 0, .int 0]))]) (fun (r : Int32) (u : va_W) => False) (fun E : String => (E = "java/lang/IndexOutOfBoundsException")) := by
  intro sz
  refine vx_ofW (cc := cX7_cellOf) (maxL := 3) (ret := (Option.some Jvm.ClassFile.FieldType.int)) (by decide) rfl ?_
  intro p e s m args below meth c s₁ B hml hno hv
  have hnoX : ∀ (k : Nat), ∀ x ∈ c.exceptionTable.toList, covers x k = false := fun k x h => (hno x h).elim
  obtain ⟨rfl, hsz, hP, hK, hD0, hT0⟩ := hv
  have hx := B.exec
  have hb := B.bytes
  have hr := B.returns
  have hts := atoms_spec (ws := (wG yX7_cellOf cX7_cellOf 3 (Option.some Jvm.ClassFile.FieldType.int))) B.pre
  have htg : ∀ w ∈ G9, w.before _ s = true := fun w h => hts w (List.mem_cons_of_mem _ h)
  have hown : s.vm.findClass "HeroTable" = some m.cls := findClass_of_methodNamed B.named
  have hlocks := B.notSynchronized
  subst hsz
  have hD := hD0.self (sz := s.heap.size)
  have hT := hT0
  clear hT0
  generalize hAe : va_A [(x0, .inr (8, [.ref t0, .ref u0, .ref k0])), (t0, .inr (6, [.ref th, .ref ts, .ref tg, .ref td, .int 0, .ref tr, .int (-1), .int 0, .int 0, .int 0, .long 0, .int 0, .int 0]))] s.heap.size = A at hD hT ⊢
  have hA : ∀ q : Nat, s.heap.size ≤ q → A q := fun q h => by rw [← hAe]; exact Or.inr h
  obtain ⟨H, hH0⟩ : ∃ H, H = s.heap := ⟨_, rfl⟩
  have hS : va_S A s.heap H [] := by rw [hH0]; exact va_S.rf
  have hP : va_P g.1 CLS [(x0, .inr (8, [.ref t0, .ref u0, .ref k0])), (t0, .inr (6, [.ref th, .ref ts, .ref tg, .ref td, .int 0, .ref tr, .int (-1), .int 0, .int 0, .int 0, .long 0, .int 0, .int 0]))] H := by rw [hH0]; exact hP
  rw [← hH0]
  have hl := lv_entry ([.ref x0, .int n1]) (n := 3) (Nat.le_of_ble_eq_true rfl)
  rw [lg_entry_eq]
  generalize (lg_sl ([.ref x0, .int n1]) ++ List.replicate (3 - (lg_sl ([.ref x0, .int n1])).length) Slot.unset).toArray = ls at hl ⊢
  have hl : lv_has ls 3 [(0, .ref x0), (1, .int n1)] := hl
  refine lv_aload_n hx hb dX7_cellOf_0 rfl (lv_at hl 0 rfl) ?_
  refine lv_iload_n hx hb dX7_cellOf_1 rfl (lv_at hl 1 rfl) ?_
  have hPc := hP.sub (ws' := [(x0, .inr (8, [.ref t0, .ref u0, .ref k0])), (t0, .inr (6, [.ref th, .ref ts, .ref tg, .ref td, .int 0, .ref tr, .int (-1), .int 0, .int 0, .int 0, .long 0, .int 0, .int 0]))]) [0, 1] rfl
  have hDc := hD.sub (ws' := [(x0, .inr (8, [.ref t0, .ref u0, .ref k0])), (t0, .inr (6, [.ref th, .ref ts, .ref tg, .ref td, .int 0, .ref tr, .int (-1), .int 0, .int 0, .int 0, .long 0, .int 0, .int 0]))]) [0, 1] (by decide) rfl
  have hFc := va_free (wc := [(x0, .inr (8, [.ref t0, .ref u0, .ref k0])), (t0, .inr (6, [.ref th, .ref ts, .ref tg, .ref td, .int 0, .ref tr, .int (-1), .int 0, .int 0, .int 0, .long 0, .int 0, .int 0]))]) hD hS hA [0, 1] rfl
  refine q_xi (wr := []) (vx_runV (As := [.int n1]) (rest := []) ⟨hx, hb, hml, hown, htg⟩ (c_X7_knownHero l hfl g x0 t0 th ts tg td tr u0 k0 n1  H.size) ⟨(qB htg k1036 k50 k1033 ok_X7_knownHero rfl rfl ⟨Nat.le_of_ble_eq_true rfl, Nat.le_of_ble_eq_true rfl⟩), htg _ k1035, htg _ k16⟩ ⟨(q_pre [.ref x0, .int n1] hPc hDc hK hS hT hFc).1, va_recv hK hP (ci := 8) (q0 := 0) rfl rfl, (q_pre [.ref x0, .int n1] hPc hDc hK hS hT hFc).2⟩ rfl rfl hl.1 rfl (lv_room (Nat.le_of_ble_eq_true rfl)) dX7_cellOf_2 ⟨Nat.le_of_ble_eq_true rfl, Nat.le_of_ble_eq_true rfl⟩) hP hD hS hFc [0, 1] [] rfl rfl (by decide) (by decide) (fun E9 ce9 q9 H locs hpx hP hD hS hq1 hq2 hq3 => ?_) (fun r9 u9 H locs hw hP hD hS => ?_)
  · exact vx_out (hnoX _) B.notSynchronized hq1 hq2 hq3 (fun t ht hv => ⟨E9, hpx, rfl, hS.F ht⟩) hS.2.2 (Nat.le_of_ble_eq_true rfl) (Nat.le_of_ble_eq_true rfl)
  · exact hw.elim

set_option maxHeartbeats 4000000 in
set_option maxRecDepth 100000 in
theorem c_X7_sees (l : Launch) (hfl : l.stackTraces = false) (g : GP) (x0 : Nat) (t0 : Nat) (th : Nat) (ts : Nat) (tg : Nat) (td : Nat) (tr : Nat) (u0 : Nat) (k0 : Nat) (n1 : Int32) (n2 : Int32) (n3 : Int32)  : XI l yX7_sees (wG yX7_sees cX7_sees 5 (Option.some Jvm.ClassFile.FieldType.boolean)) (LV 6 1 6) g [.ref x0, .int n1, .int n2, .int n3] ([(x0, .inr (8, [.ref t0, .ref u0, .ref k0])), (t0, .inr (6, [.ref th, .ref ts, .ref tg, .ref td, .int 0, .ref tr, .int (-1), .int 0, .int 0, .int 0, .long 0, .int 0, .int 0]))]) (fun (r : Int32) (u : va_W) => False) (fun E : String => (E = "java/lang/IndexOutOfBoundsException")) := by
  intro sz
  refine vx_ofW (cc := cX7_sees) (maxL := 5) (ret := (Option.some Jvm.ClassFile.FieldType.boolean)) (by decide) rfl ?_
  intro p e s m args below meth c s₁ B hml hno hv
  have hnoX : ∀ (k : Nat), ∀ x ∈ c.exceptionTable.toList, covers x k = false := fun k x h => (hno x h).elim
  obtain ⟨rfl, hsz, hP, hK, hD0, hT0⟩ := hv
  have hx := B.exec
  have hb := B.bytes
  have hr := B.returns
  have hts := atoms_spec (ws := (wG yX7_sees cX7_sees 5 (Option.some Jvm.ClassFile.FieldType.boolean))) B.pre
  have htg : ∀ w ∈ G9, w.before _ s = true := fun w h => hts w (List.mem_cons_of_mem _ h)
  have hown : s.vm.findClass "HeroTable" = some m.cls := findClass_of_methodNamed B.named
  have hlocks := B.notSynchronized
  subst hsz
  have hD := hD0.self (sz := s.heap.size)
  have hT := hT0
  clear hT0
  generalize hAe : va_A [(x0, .inr (8, [.ref t0, .ref u0, .ref k0])), (t0, .inr (6, [.ref th, .ref ts, .ref tg, .ref td, .int 0, .ref tr, .int (-1), .int 0, .int 0, .int 0, .long 0, .int 0, .int 0]))] s.heap.size = A at hD hT ⊢
  have hA : ∀ q : Nat, s.heap.size ≤ q → A q := fun q h => by rw [← hAe]; exact Or.inr h
  obtain ⟨H, hH0⟩ : ∃ H, H = s.heap := ⟨_, rfl⟩
  have hS : va_S A s.heap H [] := by rw [hH0]; exact va_S.rf
  have hP : va_P g.1 CLS [(x0, .inr (8, [.ref t0, .ref u0, .ref k0])), (t0, .inr (6, [.ref th, .ref ts, .ref tg, .ref td, .int 0, .ref tr, .int (-1), .int 0, .int 0, .int 0, .long 0, .int 0, .int 0]))] H := by rw [hH0]; exact hP
  rw [← hH0]
  have hl := lv_entry ([.ref x0, .int n1, .int n2, .int n3]) (n := 5) (Nat.le_of_ble_eq_true rfl)
  rw [lg_entry_eq]
  generalize (lg_sl ([.ref x0, .int n1, .int n2, .int n3]) ++ List.replicate (5 - (lg_sl ([.ref x0, .int n1, .int n2, .int n3])).length) Slot.unset).toArray = ls at hl ⊢
  have hl : lv_has ls 5 [(0, .ref x0), (1, .int n1), (2, .int n2), (3, .int n3)] := hl
  refine lv_aload_n hx hb dX7_sees_0 rfl (lv_at hl 0 rfl) ?_
  refine lv_iload_n hx hb dX7_sees_1 rfl (lv_at hl 1 rfl) ?_
  have hPc := hP.sub (ws' := [(x0, .inr (8, [.ref t0, .ref u0, .ref k0])), (t0, .inr (6, [.ref th, .ref ts, .ref tg, .ref td, .int 0, .ref tr, .int (-1), .int 0, .int 0, .int 0, .long 0, .int 0, .int 0]))]) [0, 1] rfl
  have hDc := hD.sub (ws' := [(x0, .inr (8, [.ref t0, .ref u0, .ref k0])), (t0, .inr (6, [.ref th, .ref ts, .ref tg, .ref td, .int 0, .ref tr, .int (-1), .int 0, .int 0, .int 0, .long 0, .int 0, .int 0]))]) [0, 1] (by decide) rfl
  have hFc := va_free (wc := [(x0, .inr (8, [.ref t0, .ref u0, .ref k0])), (t0, .inr (6, [.ref th, .ref ts, .ref tg, .ref td, .int 0, .ref tr, .int (-1), .int 0, .int 0, .int 0, .long 0, .int 0, .int 0]))]) hD hS hA [0, 1] rfl
  refine q_xi (wr := []) (vx_runV (As := [.int n1]) (rest := []) ⟨hx, hb, hml, hown, htg⟩ (c_X7_knownHero l hfl g x0 t0 th ts tg td tr u0 k0 n1  H.size) ⟨(qB htg k1036 k50 k1033 ok_X7_knownHero rfl rfl ⟨Nat.le_of_ble_eq_true rfl, Nat.le_of_ble_eq_true rfl⟩), htg _ k1035, htg _ k16⟩ ⟨(q_pre [.ref x0, .int n1] hPc hDc hK hS hT hFc).1, va_recv hK hP (ci := 8) (q0 := 0) rfl rfl, (q_pre [.ref x0, .int n1] hPc hDc hK hS hT hFc).2⟩ rfl rfl hl.1 rfl (lv_room (Nat.le_of_ble_eq_true rfl)) dX7_sees_2 ⟨Nat.le_of_ble_eq_true rfl, Nat.le_of_ble_eq_true rfl⟩) hP hD hS hFc [0, 1] [] rfl rfl (by decide) (by decide) (fun E9 ce9 q9 H locs hpx hP hD hS hq1 hq2 hq3 => ?_) (fun r9 u9 H locs hw hP hD hS => ?_)
  · exact vx_out (hnoX _) B.notSynchronized hq1 hq2 hq3 (fun t ht hv => ⟨E9, hpx, rfl, hS.F ht⟩) hS.2.2 (Nat.le_of_ble_eq_true rfl) (Nat.le_of_ble_eq_true rfl)
  · exact hw.elim

set_option maxHeartbeats 4000000 in
set_option maxRecDepth 100000 in
theorem c_X7_addSource (l : Launch) (hfl : l.stackTraces = false) (g : GP) (x0 : Nat) (t0 : Nat) (th : Nat) (ts : Nat) (tg : Nat) (td : Nat) (tr : Nat) (u0 : Nat) (k0 : Nat) (n1 : Int32) (n2 : Int32) (n3 : Int32) (n4 : Int32) (n5 : Int32) (n6 : Int32)  : XI l yX7_addSource (wG yX7_addSource cX7_addSource 8 (Option.some Jvm.ClassFile.FieldType.int)) (LV 6 1 6) g [.ref x0, .int n1, .int n2, .int n3, .int n4, .int n5, .int n6] ([(x0, .inr (8, [.ref t0, .ref u0, .ref k0])), (t0, .inr (6, [.ref th, .ref ts, .ref tg, .ref td, .int 0, .ref tr, .int (-1), .int 0, .int 0, .int 0, .long 0, .int 0, .int 0]))]) (fun (r : Int32) (u : va_W) => False) (fun E : String => (E = "java/lang/IndexOutOfBoundsException")) := by
  intro sz
  refine vx_ofW (cc := cX7_addSource) (maxL := 8) (ret := (Option.some Jvm.ClassFile.FieldType.int)) (by decide) rfl ?_
  intro p e s m args below meth c s₁ B hml hno hv
  have hnoX : ∀ (k : Nat), ∀ x ∈ c.exceptionTable.toList, covers x k = false := fun k x h => (hno x h).elim
  obtain ⟨rfl, hsz, hP, hK, hD0, hT0⟩ := hv
  have hx := B.exec
  have hb := B.bytes
  have hr := B.returns
  have hts := atoms_spec (ws := (wG yX7_addSource cX7_addSource 8 (Option.some Jvm.ClassFile.FieldType.int))) B.pre
  have htg : ∀ w ∈ G9, w.before _ s = true := fun w h => hts w (List.mem_cons_of_mem _ h)
  have hown : s.vm.findClass "HeroTable" = some m.cls := findClass_of_methodNamed B.named
  have hlocks := B.notSynchronized
  subst hsz
  have hD := hD0.self (sz := s.heap.size)
  have hT := hT0
  clear hT0
  generalize hAe : va_A [(x0, .inr (8, [.ref t0, .ref u0, .ref k0])), (t0, .inr (6, [.ref th, .ref ts, .ref tg, .ref td, .int 0, .ref tr, .int (-1), .int 0, .int 0, .int 0, .long 0, .int 0, .int 0]))] s.heap.size = A at hD hT ⊢
  have hA : ∀ q : Nat, s.heap.size ≤ q → A q := fun q h => by rw [← hAe]; exact Or.inr h
  obtain ⟨H, hH0⟩ : ∃ H, H = s.heap := ⟨_, rfl⟩
  have hS : va_S A s.heap H [] := by rw [hH0]; exact va_S.rf
  have hP : va_P g.1 CLS [(x0, .inr (8, [.ref t0, .ref u0, .ref k0])), (t0, .inr (6, [.ref th, .ref ts, .ref tg, .ref td, .int 0, .ref tr, .int (-1), .int 0, .int 0, .int 0, .long 0, .int 0, .int 0]))] H := by rw [hH0]; exact hP
  rw [← hH0]
  have hl := lv_entry ([.ref x0, .int n1, .int n2, .int n3, .int n4, .int n5, .int n6]) (n := 8) (Nat.le_of_ble_eq_true rfl)
  rw [lg_entry_eq]
  generalize (lg_sl ([.ref x0, .int n1, .int n2, .int n3, .int n4, .int n5, .int n6]) ++ List.replicate (8 - (lg_sl ([.ref x0, .int n1, .int n2, .int n3, .int n4, .int n5, .int n6])).length) Slot.unset).toArray = ls at hl ⊢
  have hl : lv_has ls 8 [(0, .ref x0), (1, .int n1), (2, .int n2), (3, .int n3), (4, .int n4), (5, .int n5), (6, .int n6)] := hl
  refine lv_aload_n hx hb dX7_addSource_0 rfl (lv_at hl 0 rfl) ?_
  refine va_get (D := g.1) (ci := 8) (v := .ref t0) (C := RX7) (T := TX7) (N := 3) hx hb htg inG_X7 hown hK hP 0 rfl rfl 0 (by decide) (htg _ k310) (fun _ h9 => h9) rfl dX7_addSource_1 ?_
  refine lv_iload_n hx hb dX7_addSource_4 rfl (lv_at hl 1 rfl) ?_
  refine lv_iload_n hx hb dX7_addSource_5 rfl (lv_at hl 2 rfl) ?_
  refine lv_iload_n hx hb dX7_addSource_6 rfl (lv_at hl 3 rfl) ?_
  refine lv_iload hx hb dX7_addSource_7 (lv_at hl 4 rfl) ?_
  refine lv_iload hx hb dX7_addSource_9 (lv_at hl 5 rfl) ?_
  refine lv_iload hx hb dX7_addSource_11 (lv_at hl 6 rfl) ?_
  have hPc := hP.sub (ws' := [(t0, .inr (6, [.ref th, .ref ts, .ref tg, .ref td, .int 0, .ref tr, .int (-1), .int 0, .int 0, .int 0, .long 0, .int 0, .int 0]))]) [1] rfl
  have hDc := hD.sub (ws' := [(t0, .inr (6, [.ref th, .ref ts, .ref tg, .ref td, .int 0, .ref tr, .int (-1), .int 0, .int 0, .int 0, .long 0, .int 0, .int 0]))]) [1] (by decide) rfl
  have hFc := va_free (wc := [(t0, .inr (6, [.ref th, .ref ts, .ref tg, .ref td, .int 0, .ref tr, .int (-1), .int 0, .int 0, .int 0, .long 0, .int 0, .int 0]))]) hD hS hA [1] rfl
  refine q_ci (wr := [(x0, .inr (8, [.ref t0, .ref u0, .ref k0]))]) (va_runV (As := [.int n1, .int n2, .int n3, .int n4, .int n5, .int n6]) (rest := []) ⟨hx, hb, hml, hown, htg⟩ (c_X5_tellBonus l hfl g t0 th ts tg td tr n1 n2 n3 n4 n5 n6  H.size) ⟨(qB htg k545 k51 k1070 ok_X5_tellBonus rfl rfl ⟨Nat.le_of_ble_eq_true rfl, Nat.le_of_ble_eq_true rfl⟩), htg _ k543, htg _ k544⟩ ⟨(q_pre [.ref t0, .int n1, .int n2, .int n3, .int n4, .int n5, .int n6] hPc hDc hK hS hT hFc).1, va_recv hK hP (ci := 6) (q0 := 1) rfl rfl, (q_pre [.ref t0, .int n1, .int n2, .int n3, .int n4, .int n5, .int n6] hPc hDc hK hS hT hFc).2⟩ rfl rfl hl.1 rfl (lv_room (Nat.le_of_ble_eq_true rfl)) dX7_addSource_13 ⟨Nat.le_of_ble_eq_true rfl, Nat.le_of_ble_eq_true rfl⟩) hP hD hS hFc [1] [0] rfl rfl (by decide) (by decide) (fun r9 u9 H locs hw hP hD hS => ?_)
  try dsimp only at hw
  rcases hw with ⟨rfl, rfl⟩
  have hP : va_P g.1 CLS [(x0, .inr (8, [.ref t0, .ref u0, .ref k0])), (t0, .inr (6, [.ref th, .ref ts, .ref tg, .ref td, .int 0, .ref tr, .int (-1), .int 0, .int 0, .int 0, .long 0, .int 0, .int 0]))] H := hP
  have hD : va_D A [(x0, .inr (8, [.ref t0, .ref u0, .ref k0])), (t0, .inr (6, [.ref th, .ref ts, .ref tg, .ref td, .int 0, .ref tr, .int (-1), .int 0, .int 0, .int 0, .long 0, .int 0, .int 0]))] := hD
  refine W.widen (k := 0) (n := 0) (Nat.le_of_ble_eq_true rfl) (Nat.le_of_ble_eq_true rfl) ?_
  have hPc := hP.sub (ws' := []) [] rfl
  have hDc := hD.sub (ws' := []) [] (by decide) rfl
  have hFc := va_free (wc := []) hD hS hA [] rfl
  refine q_xi (wr := [(x0, .inr (8, [.ref t0, .ref u0, .ref k0])), (t0, .inr (6, [.ref th, .ref ts, .ref tg, .ref td, .int 0, .ref tr, .int (-1), .int 0, .int 0, .int 0, .long 0, .int 0, .int 0]))]) (vx_runS (As := [.int (-1000001)]) (rest := []) ⟨hx, hb, hml, hown, htg⟩ (c_ans_1000001 l hfl g   H.size) ⟨(qB htg k827 k50 k825 ok_X7_answered rfl rfl ⟨Nat.le_of_ble_eq_true rfl, Nat.le_of_ble_eq_true rfl⟩), htg _ k826⟩ (q_pre [.int (-1000001)] hPc hDc hK hS hT hFc) rfl rfl hl.1 rfl (lv_room (Nat.le_of_ble_eq_true rfl)) dX7_addSource_16 ⟨Nat.le_of_ble_eq_true rfl, Nat.le_of_ble_eq_true rfl⟩) hP hD hS hFc [] [0, 1] rfl rfl (by decide) (by decide) (fun E9 ce9 q9 H locs hpx hP hD hS hq1 hq2 hq3 => ?_) (fun r9 u9 H locs hw hP hD hS => ?_)
  · exact vx_out (hnoX _) B.notSynchronized hq1 hq2 hq3 (fun t ht hv => ⟨E9, hpx, rfl, hS.F ht⟩) hS.2.2 (Nat.le_of_ble_eq_true rfl) (Nat.le_of_ble_eq_true rfl)
  · exact hw.elim

set_option maxHeartbeats 4000000 in
set_option maxRecDepth 100000 in
theorem c_X7_afflict (l : Launch) (hfl : l.stackTraces = false) (g : GP) (x0 : Nat) (t0 : Nat) (th : Nat) (ts : Nat) (tg : Nat) (td : Nat) (tr : Nat) (u0 : Nat) (k0 : Nat) (n1 : Int32) (n2 : Int32) (n3 : Int32) (n4 : Int32) (n5 : Int32)  : XI l yX7_afflict (wG yX7_afflict cX7_afflict 7 (Option.some Jvm.ClassFile.FieldType.int)) (LV 6 1 6) g [.ref x0, .int n1, .int n2, .int n3, .int n4, .int n5] ([(x0, .inr (8, [.ref t0, .ref u0, .ref k0])), (t0, .inr (6, [.ref th, .ref ts, .ref tg, .ref td, .int 0, .ref tr, .int (-1), .int 0, .int 0, .int 0, .long 0, .int 0, .int 0]))]) (fun (r : Int32) (u : va_W) => False) (fun E : String => (E = "java/lang/IndexOutOfBoundsException")) := by
  intro sz
  refine vx_ofW (cc := cX7_afflict) (maxL := 7) (ret := (Option.some Jvm.ClassFile.FieldType.int)) (by decide) rfl ?_
  intro p e s m args below meth c s₁ B hml hno hv
  have hnoX : ∀ (k : Nat), ∀ x ∈ c.exceptionTable.toList, covers x k = false := fun k x h => (hno x h).elim
  obtain ⟨rfl, hsz, hP, hK, hD0, hT0⟩ := hv
  have hx := B.exec
  have hb := B.bytes
  have hr := B.returns
  have hts := atoms_spec (ws := (wG yX7_afflict cX7_afflict 7 (Option.some Jvm.ClassFile.FieldType.int))) B.pre
  have htg : ∀ w ∈ G9, w.before _ s = true := fun w h => hts w (List.mem_cons_of_mem _ h)
  have hown : s.vm.findClass "HeroTable" = some m.cls := findClass_of_methodNamed B.named
  have hlocks := B.notSynchronized
  subst hsz
  have hD := hD0.self (sz := s.heap.size)
  have hT := hT0
  clear hT0
  generalize hAe : va_A [(x0, .inr (8, [.ref t0, .ref u0, .ref k0])), (t0, .inr (6, [.ref th, .ref ts, .ref tg, .ref td, .int 0, .ref tr, .int (-1), .int 0, .int 0, .int 0, .long 0, .int 0, .int 0]))] s.heap.size = A at hD hT ⊢
  have hA : ∀ q : Nat, s.heap.size ≤ q → A q := fun q h => by rw [← hAe]; exact Or.inr h
  obtain ⟨H, hH0⟩ : ∃ H, H = s.heap := ⟨_, rfl⟩
  have hS : va_S A s.heap H [] := by rw [hH0]; exact va_S.rf
  have hP : va_P g.1 CLS [(x0, .inr (8, [.ref t0, .ref u0, .ref k0])), (t0, .inr (6, [.ref th, .ref ts, .ref tg, .ref td, .int 0, .ref tr, .int (-1), .int 0, .int 0, .int 0, .long 0, .int 0, .int 0]))] H := by rw [hH0]; exact hP
  rw [← hH0]
  have hl := lv_entry ([.ref x0, .int n1, .int n2, .int n3, .int n4, .int n5]) (n := 7) (Nat.le_of_ble_eq_true rfl)
  rw [lg_entry_eq]
  generalize (lg_sl ([.ref x0, .int n1, .int n2, .int n3, .int n4, .int n5]) ++ List.replicate (7 - (lg_sl ([.ref x0, .int n1, .int n2, .int n3, .int n4, .int n5])).length) Slot.unset).toArray = ls at hl ⊢
  have hl : lv_has ls 7 [(0, .ref x0), (1, .int n1), (2, .int n2), (3, .int n3), (4, .int n4), (5, .int n5)] := hl
  refine lv_aload_n hx hb dX7_afflict_0 rfl (lv_at hl 0 rfl) ?_
  refine va_get (D := g.1) (ci := 8) (v := .ref t0) (C := RX7) (T := TX7) (N := 3) hx hb htg inG_X7 hown hK hP 0 rfl rfl 0 (by decide) (htg _ k310) (fun _ h9 => h9) rfl dX7_afflict_1 ?_
  refine lv_iload_n hx hb dX7_afflict_4 rfl (lv_at hl 1 rfl) ?_
  refine lv_iload_n hx hb dX7_afflict_5 rfl (lv_at hl 2 rfl) ?_
  refine lv_iload_n hx hb dX7_afflict_6 rfl (lv_at hl 3 rfl) ?_
  refine lv_iload hx hb dX7_afflict_7 (lv_at hl 4 rfl) ?_
  refine lv_iload hx hb dX7_afflict_9 (lv_at hl 5 rfl) ?_
  have hPc := hP.sub (ws' := [(t0, .inr (6, [.ref th, .ref ts, .ref tg, .ref td, .int 0, .ref tr, .int (-1), .int 0, .int 0, .int 0, .long 0, .int 0, .int 0]))]) [1] rfl
  have hDc := hD.sub (ws' := [(t0, .inr (6, [.ref th, .ref ts, .ref tg, .ref td, .int 0, .ref tr, .int (-1), .int 0, .int 0, .int 0, .long 0, .int 0, .int 0]))]) [1] (by decide) rfl
  have hFc := va_free (wc := [(t0, .inr (6, [.ref th, .ref ts, .ref tg, .ref td, .int 0, .ref tr, .int (-1), .int 0, .int 0, .int 0, .long 0, .int 0, .int 0]))]) hD hS hA [1] rfl
  refine q_ci (wr := [(x0, .inr (8, [.ref t0, .ref u0, .ref k0]))]) (va_runV (As := [.int n1, .int n2, .int n3, .int n4, .int n5]) (rest := []) ⟨hx, hb, hml, hown, htg⟩ (c_X5_tellCondition l hfl g t0 th ts tg td tr n1 n2 n3 n4 n5  H.size) ⟨(qB htg k596 k51 k1078 ok_X5_tellCondition rfl rfl ⟨Nat.le_of_ble_eq_true rfl, Nat.le_of_ble_eq_true rfl⟩), htg _ k594, htg _ k595⟩ ⟨(q_pre [.ref t0, .int n1, .int n2, .int n3, .int n4, .int n5] hPc hDc hK hS hT hFc).1, va_recv hK hP (ci := 6) (q0 := 1) rfl rfl, (q_pre [.ref t0, .int n1, .int n2, .int n3, .int n4, .int n5] hPc hDc hK hS hT hFc).2⟩ rfl rfl hl.1 rfl (lv_room (Nat.le_of_ble_eq_true rfl)) dX7_afflict_11 ⟨Nat.le_of_ble_eq_true rfl, Nat.le_of_ble_eq_true rfl⟩) hP hD hS hFc [1] [0] rfl rfl (by decide) (by decide) (fun r9 u9 H locs hw hP hD hS => ?_)
  try dsimp only at hw
  rcases hw with ⟨rfl, rfl⟩
  have hP : va_P g.1 CLS [(x0, .inr (8, [.ref t0, .ref u0, .ref k0])), (t0, .inr (6, [.ref th, .ref ts, .ref tg, .ref td, .int 0, .ref tr, .int (-1), .int 0, .int 0, .int 0, .long 0, .int 0, .int 0]))] H := hP
  have hD : va_D A [(x0, .inr (8, [.ref t0, .ref u0, .ref k0])), (t0, .inr (6, [.ref th, .ref ts, .ref tg, .ref td, .int 0, .ref tr, .int (-1), .int 0, .int 0, .int 0, .long 0, .int 0, .int 0]))] := hD
  refine W.widen (k := 0) (n := 0) (Nat.le_of_ble_eq_true rfl) (Nat.le_of_ble_eq_true rfl) ?_
  have hPc := hP.sub (ws' := []) [] rfl
  have hDc := hD.sub (ws' := []) [] (by decide) rfl
  have hFc := va_free (wc := []) hD hS hA [] rfl
  refine q_xi (wr := [(x0, .inr (8, [.ref t0, .ref u0, .ref k0])), (t0, .inr (6, [.ref th, .ref ts, .ref tg, .ref td, .int 0, .ref tr, .int (-1), .int 0, .int 0, .int 0, .long 0, .int 0, .int 0]))]) (vx_runS (As := [.int (-1000001)]) (rest := []) ⟨hx, hb, hml, hown, htg⟩ (c_ans_1000001 l hfl g   H.size) ⟨(qB htg k827 k50 k825 ok_X7_answered rfl rfl ⟨Nat.le_of_ble_eq_true rfl, Nat.le_of_ble_eq_true rfl⟩), htg _ k826⟩ (q_pre [.int (-1000001)] hPc hDc hK hS hT hFc) rfl rfl hl.1 rfl (lv_room (Nat.le_of_ble_eq_true rfl)) dX7_afflict_14 ⟨Nat.le_of_ble_eq_true rfl, Nat.le_of_ble_eq_true rfl⟩) hP hD hS hFc [] [0, 1] rfl rfl (by decide) (by decide) (fun E9 ce9 q9 H locs hpx hP hD hS hq1 hq2 hq3 => ?_) (fun r9 u9 H locs hw hP hD hS => ?_)
  · exact vx_out (hnoX _) B.notSynchronized hq1 hq2 hq3 (fun t ht hv => ⟨E9, hpx, rfl, hS.F ht⟩) hS.2.2 (Nat.le_of_ble_eq_true rfl) (Nat.le_of_ble_eq_true rfl)
  · exact hw.elim

set_option maxHeartbeats 4000000 in
set_option maxRecDepth 100000 in
theorem c_X7_numberOf (l : Launch) (hfl : l.stackTraces = false) (g : GP) (x0 : Nat) (t0 : Nat) (th : Nat) (ts : Nat) (tg : Nat) (td : Nat) (tr : Nat) (u0 : Nat) (k0 : Nat) (n1 : Int32) (n2 : Int32)  : XI l yX7_numberOf (wG yX7_numberOf cX7_numberOf 3 (Option.some Jvm.ClassFile.FieldType.int)) (LV 6 1 6) g [.ref x0, .int n1, .int n2] ([(x0, .inr (8, [.ref t0, .ref u0, .ref k0])), (t0, .inr (6, [.ref th, .ref ts, .ref tg, .ref td, .int 0, .ref tr, .int (-1), .int 0, .int 0, .int 0, .long 0, .int 0, .int 0]))]) (fun (r : Int32) (u : va_W) => False) (fun E : String => (E = "java/lang/IndexOutOfBoundsException")) := by
  intro sz
  refine vx_ofW (cc := cX7_numberOf) (maxL := 3) (ret := (Option.some Jvm.ClassFile.FieldType.int)) (by decide) rfl ?_
  intro p e s m args below meth c s₁ B hml hno hv
  have hnoX : ∀ (k : Nat), ∀ x ∈ c.exceptionTable.toList, covers x k = false := fun k x h => (hno x h).elim
  obtain ⟨rfl, hsz, hP, hK, hD0, hT0⟩ := hv
  have hx := B.exec
  have hb := B.bytes
  have hr := B.returns
  have hts := atoms_spec (ws := (wG yX7_numberOf cX7_numberOf 3 (Option.some Jvm.ClassFile.FieldType.int))) B.pre
  have htg : ∀ w ∈ G9, w.before _ s = true := fun w h => hts w (List.mem_cons_of_mem _ h)
  have hown : s.vm.findClass "HeroTable" = some m.cls := findClass_of_methodNamed B.named
  have hlocks := B.notSynchronized
  subst hsz
  have hD := hD0.self (sz := s.heap.size)
  have hT := hT0
  clear hT0
  generalize hAe : va_A [(x0, .inr (8, [.ref t0, .ref u0, .ref k0])), (t0, .inr (6, [.ref th, .ref ts, .ref tg, .ref td, .int 0, .ref tr, .int (-1), .int 0, .int 0, .int 0, .long 0, .int 0, .int 0]))] s.heap.size = A at hD hT ⊢
  have hA : ∀ q : Nat, s.heap.size ≤ q → A q := fun q h => by rw [← hAe]; exact Or.inr h
  obtain ⟨H, hH0⟩ : ∃ H, H = s.heap := ⟨_, rfl⟩
  have hS : va_S A s.heap H [] := by rw [hH0]; exact va_S.rf
  have hP : va_P g.1 CLS [(x0, .inr (8, [.ref t0, .ref u0, .ref k0])), (t0, .inr (6, [.ref th, .ref ts, .ref tg, .ref td, .int 0, .ref tr, .int (-1), .int 0, .int 0, .int 0, .long 0, .int 0, .int 0]))] H := by rw [hH0]; exact hP
  rw [← hH0]
  have hl := lv_entry ([.ref x0, .int n1, .int n2]) (n := 3) (Nat.le_of_ble_eq_true rfl)
  rw [lg_entry_eq]
  generalize (lg_sl ([.ref x0, .int n1, .int n2]) ++ List.replicate (3 - (lg_sl ([.ref x0, .int n1, .int n2])).length) Slot.unset).toArray = ls at hl ⊢
  have hl : lv_has ls 3 [(0, .ref x0), (1, .int n1), (2, .int n2)] := hl
  refine lv_aload_n hx hb dX7_numberOf_0 rfl (lv_at hl 0 rfl) ?_
  refine lv_iload_n hx hb dX7_numberOf_1 rfl (lv_at hl 1 rfl) ?_
  have hPc := hP.sub (ws' := [(x0, .inr (8, [.ref t0, .ref u0, .ref k0])), (t0, .inr (6, [.ref th, .ref ts, .ref tg, .ref td, .int 0, .ref tr, .int (-1), .int 0, .int 0, .int 0, .long 0, .int 0, .int 0]))]) [0, 1] rfl
  have hDc := hD.sub (ws' := [(x0, .inr (8, [.ref t0, .ref u0, .ref k0])), (t0, .inr (6, [.ref th, .ref ts, .ref tg, .ref td, .int 0, .ref tr, .int (-1), .int 0, .int 0, .int 0, .long 0, .int 0, .int 0]))]) [0, 1] (by decide) rfl
  have hFc := va_free (wc := [(x0, .inr (8, [.ref t0, .ref u0, .ref k0])), (t0, .inr (6, [.ref th, .ref ts, .ref tg, .ref td, .int 0, .ref tr, .int (-1), .int 0, .int 0, .int 0, .long 0, .int 0, .int 0]))]) hD hS hA [0, 1] rfl
  refine q_xi (wr := []) (vx_runV (As := [.int n1]) (rest := []) ⟨hx, hb, hml, hown, htg⟩ (c_X7_knownHero l hfl g x0 t0 th ts tg td tr u0 k0 n1  H.size) ⟨(qB htg k1036 k50 k1033 ok_X7_knownHero rfl rfl ⟨Nat.le_of_ble_eq_true rfl, Nat.le_of_ble_eq_true rfl⟩), htg _ k1035, htg _ k16⟩ ⟨(q_pre [.ref x0, .int n1] hPc hDc hK hS hT hFc).1, va_recv hK hP (ci := 8) (q0 := 0) rfl rfl, (q_pre [.ref x0, .int n1] hPc hDc hK hS hT hFc).2⟩ rfl rfl hl.1 rfl (lv_room (Nat.le_of_ble_eq_true rfl)) dX7_numberOf_2 ⟨Nat.le_of_ble_eq_true rfl, Nat.le_of_ble_eq_true rfl⟩) hP hD hS hFc [0, 1] [] rfl rfl (by decide) (by decide) (fun E9 ce9 q9 H locs hpx hP hD hS hq1 hq2 hq3 => ?_) (fun r9 u9 H locs hw hP hD hS => ?_)
  · exact vx_out (hnoX _) B.notSynchronized hq1 hq2 hq3 (fun t ht hv => ⟨E9, hpx, rfl, hS.F ht⟩) hS.2.2 (Nat.le_of_ble_eq_true rfl) (Nat.le_of_ble_eq_true rfl)
  · exact hw.elim

set_option maxHeartbeats 4000000 in
set_option maxRecDepth 100000 in
theorem c_X7_numberAnew (l : Launch) (hfl : l.stackTraces = false) (g : GP) (x0 : Nat) (t0 : Nat) (th : Nat) (ts : Nat) (tg : Nat) (td : Nat) (tr : Nat) (u0 : Nat) (k0 : Nat) (n1 : Int32) (n2 : Int32)  : XI l yX7_numberAnew (wG yX7_numberAnew cX7_numberAnew 3 (Option.some Jvm.ClassFile.FieldType.int)) (LV 6 1 6) g [.ref x0, .int n1, .int n2] ([(x0, .inr (8, [.ref t0, .ref u0, .ref k0])), (t0, .inr (6, [.ref th, .ref ts, .ref tg, .ref td, .int 0, .ref tr, .int (-1), .int 0, .int 0, .int 0, .long 0, .int 0, .int 0]))]) (fun (r : Int32) (u : va_W) => False) (fun E : String => (E = "java/lang/IndexOutOfBoundsException")) := by
  intro sz
  refine vx_ofW (cc := cX7_numberAnew) (maxL := 3) (ret := (Option.some Jvm.ClassFile.FieldType.int)) (by decide) rfl ?_
  intro p e s m args below meth c s₁ B hml hno hv
  have hnoX : ∀ (k : Nat), ∀ x ∈ c.exceptionTable.toList, covers x k = false := fun k x h => (hno x h).elim
  obtain ⟨rfl, hsz, hP, hK, hD0, hT0⟩ := hv
  have hx := B.exec
  have hb := B.bytes
  have hr := B.returns
  have hts := atoms_spec (ws := (wG yX7_numberAnew cX7_numberAnew 3 (Option.some Jvm.ClassFile.FieldType.int))) B.pre
  have htg : ∀ w ∈ G9, w.before _ s = true := fun w h => hts w (List.mem_cons_of_mem _ h)
  have hown : s.vm.findClass "HeroTable" = some m.cls := findClass_of_methodNamed B.named
  have hlocks := B.notSynchronized
  subst hsz
  have hD := hD0.self (sz := s.heap.size)
  have hT := hT0
  clear hT0
  generalize hAe : va_A [(x0, .inr (8, [.ref t0, .ref u0, .ref k0])), (t0, .inr (6, [.ref th, .ref ts, .ref tg, .ref td, .int 0, .ref tr, .int (-1), .int 0, .int 0, .int 0, .long 0, .int 0, .int 0]))] s.heap.size = A at hD hT ⊢
  have hA : ∀ q : Nat, s.heap.size ≤ q → A q := fun q h => by rw [← hAe]; exact Or.inr h
  obtain ⟨H, hH0⟩ : ∃ H, H = s.heap := ⟨_, rfl⟩
  have hS : va_S A s.heap H [] := by rw [hH0]; exact va_S.rf
  have hP : va_P g.1 CLS [(x0, .inr (8, [.ref t0, .ref u0, .ref k0])), (t0, .inr (6, [.ref th, .ref ts, .ref tg, .ref td, .int 0, .ref tr, .int (-1), .int 0, .int 0, .int 0, .long 0, .int 0, .int 0]))] H := by rw [hH0]; exact hP
  rw [← hH0]
  have hl := lv_entry ([.ref x0, .int n1, .int n2]) (n := 3) (Nat.le_of_ble_eq_true rfl)
  rw [lg_entry_eq]
  generalize (lg_sl ([.ref x0, .int n1, .int n2]) ++ List.replicate (3 - (lg_sl ([.ref x0, .int n1, .int n2])).length) Slot.unset).toArray = ls at hl ⊢
  have hl : lv_has ls 3 [(0, .ref x0), (1, .int n1), (2, .int n2)] := hl
  refine lv_aload_n hx hb dX7_numberAnew_0 rfl (lv_at hl 0 rfl) ?_
  refine lv_iload_n hx hb dX7_numberAnew_1 rfl (lv_at hl 1 rfl) ?_
  have hPc := hP.sub (ws' := [(x0, .inr (8, [.ref t0, .ref u0, .ref k0])), (t0, .inr (6, [.ref th, .ref ts, .ref tg, .ref td, .int 0, .ref tr, .int (-1), .int 0, .int 0, .int 0, .long 0, .int 0, .int 0]))]) [0, 1] rfl
  have hDc := hD.sub (ws' := [(x0, .inr (8, [.ref t0, .ref u0, .ref k0])), (t0, .inr (6, [.ref th, .ref ts, .ref tg, .ref td, .int 0, .ref tr, .int (-1), .int 0, .int 0, .int 0, .long 0, .int 0, .int 0]))]) [0, 1] (by decide) rfl
  have hFc := va_free (wc := [(x0, .inr (8, [.ref t0, .ref u0, .ref k0])), (t0, .inr (6, [.ref th, .ref ts, .ref tg, .ref td, .int 0, .ref tr, .int (-1), .int 0, .int 0, .int 0, .long 0, .int 0, .int 0]))]) hD hS hA [0, 1] rfl
  refine q_xi (wr := []) (vx_runV (As := [.int n1]) (rest := []) ⟨hx, hb, hml, hown, htg⟩ (c_X7_knownHero l hfl g x0 t0 th ts tg td tr u0 k0 n1  H.size) ⟨(qB htg k1036 k50 k1033 ok_X7_knownHero rfl rfl ⟨Nat.le_of_ble_eq_true rfl, Nat.le_of_ble_eq_true rfl⟩), htg _ k1035, htg _ k16⟩ ⟨(q_pre [.ref x0, .int n1] hPc hDc hK hS hT hFc).1, va_recv hK hP (ci := 8) (q0 := 0) rfl rfl, (q_pre [.ref x0, .int n1] hPc hDc hK hS hT hFc).2⟩ rfl rfl hl.1 rfl (lv_room (Nat.le_of_ble_eq_true rfl)) dX7_numberAnew_2 ⟨Nat.le_of_ble_eq_true rfl, Nat.le_of_ble_eq_true rfl⟩) hP hD hS hFc [0, 1] [] rfl rfl (by decide) (by decide) (fun E9 ce9 q9 H locs hpx hP hD hS hq1 hq2 hq3 => ?_) (fun r9 u9 H locs hw hP hD hS => ?_)
  · exact vx_out (hnoX _) B.notSynchronized hq1 hq2 hq3 (fun t ht hv => ⟨E9, hpx, rfl, hS.F ht⟩) hS.2.2 (Nat.le_of_ble_eq_true rfl) (Nat.le_of_ble_eq_true rfl)
  · exact hw.elim

set_option maxHeartbeats 4000000 in
set_option maxRecDepth 100000 in
theorem c_X7_has (l : Launch) (hfl : l.stackTraces = false) (g : GP) (x0 : Nat) (t0 : Nat) (th : Nat) (ts : Nat) (tg : Nat) (td : Nat) (tr : Nat) (u0 : Nat) (k0 : Nat) (n1 : Int32) (n2 : Int32)  : XI l yX7_has (wG yX7_has cX7_has 4 (Option.some Jvm.ClassFile.FieldType.boolean)) (LV 6 1 6) g [.ref x0, .int n1, .int n2] ([(x0, .inr (8, [.ref t0, .ref u0, .ref k0])), (t0, .inr (6, [.ref th, .ref ts, .ref tg, .ref td, .int 0, .ref tr, .int (-1), .int 0, .int 0, .int 0, .long 0, .int 0, .int 0]))]) (fun (r : Int32) (u : va_W) => False) (fun E : String => (E = "java/lang/IndexOutOfBoundsException")) := by
  intro sz
  refine vx_ofW (cc := cX7_has) (maxL := 4) (ret := (Option.some Jvm.ClassFile.FieldType.boolean)) (by decide) rfl ?_
  intro p e s m args below meth c s₁ B hml hno hv
  have hnoX : ∀ (k : Nat), ∀ x ∈ c.exceptionTable.toList, covers x k = false := fun k x h => (hno x h).elim
  obtain ⟨rfl, hsz, hP, hK, hD0, hT0⟩ := hv
  have hx := B.exec
  have hb := B.bytes
  have hr := B.returns
  have hts := atoms_spec (ws := (wG yX7_has cX7_has 4 (Option.some Jvm.ClassFile.FieldType.boolean))) B.pre
  have htg : ∀ w ∈ G9, w.before _ s = true := fun w h => hts w (List.mem_cons_of_mem _ h)
  have hown : s.vm.findClass "HeroTable" = some m.cls := findClass_of_methodNamed B.named
  have hlocks := B.notSynchronized
  subst hsz
  have hD := hD0.self (sz := s.heap.size)
  have hT := hT0
  clear hT0
  generalize hAe : va_A [(x0, .inr (8, [.ref t0, .ref u0, .ref k0])), (t0, .inr (6, [.ref th, .ref ts, .ref tg, .ref td, .int 0, .ref tr, .int (-1), .int 0, .int 0, .int 0, .long 0, .int 0, .int 0]))] s.heap.size = A at hD hT ⊢
  have hA : ∀ q : Nat, s.heap.size ≤ q → A q := fun q h => by rw [← hAe]; exact Or.inr h
  obtain ⟨H, hH0⟩ : ∃ H, H = s.heap := ⟨_, rfl⟩
  have hS : va_S A s.heap H [] := by rw [hH0]; exact va_S.rf
  have hP : va_P g.1 CLS [(x0, .inr (8, [.ref t0, .ref u0, .ref k0])), (t0, .inr (6, [.ref th, .ref ts, .ref tg, .ref td, .int 0, .ref tr, .int (-1), .int 0, .int 0, .int 0, .long 0, .int 0, .int 0]))] H := by rw [hH0]; exact hP
  rw [← hH0]
  have hl := lv_entry ([.ref x0, .int n1, .int n2]) (n := 4) (Nat.le_of_ble_eq_true rfl)
  rw [lg_entry_eq]
  generalize (lg_sl ([.ref x0, .int n1, .int n2]) ++ List.replicate (4 - (lg_sl ([.ref x0, .int n1, .int n2])).length) Slot.unset).toArray = ls at hl ⊢
  have hl : lv_has ls 4 [(0, .ref x0), (1, .int n1), (2, .int n2)] := hl
  refine lv_aload_n hx hb dX7_has_0 rfl (lv_at hl 0 rfl) ?_
  refine lv_iload_n hx hb dX7_has_1 rfl (lv_at hl 1 rfl) ?_
  have hPc := hP.sub (ws' := [(x0, .inr (8, [.ref t0, .ref u0, .ref k0])), (t0, .inr (6, [.ref th, .ref ts, .ref tg, .ref td, .int 0, .ref tr, .int (-1), .int 0, .int 0, .int 0, .long 0, .int 0, .int 0]))]) [0, 1] rfl
  have hDc := hD.sub (ws' := [(x0, .inr (8, [.ref t0, .ref u0, .ref k0])), (t0, .inr (6, [.ref th, .ref ts, .ref tg, .ref td, .int 0, .ref tr, .int (-1), .int 0, .int 0, .int 0, .long 0, .int 0, .int 0]))]) [0, 1] (by decide) rfl
  have hFc := va_free (wc := [(x0, .inr (8, [.ref t0, .ref u0, .ref k0])), (t0, .inr (6, [.ref th, .ref ts, .ref tg, .ref td, .int 0, .ref tr, .int (-1), .int 0, .int 0, .int 0, .long 0, .int 0, .int 0]))]) hD hS hA [0, 1] rfl
  refine q_xi (wr := []) (vx_runV (As := [.int n1]) (rest := []) ⟨hx, hb, hml, hown, htg⟩ (c_X7_knownHero l hfl g x0 t0 th ts tg td tr u0 k0 n1  H.size) ⟨(qB htg k1036 k50 k1033 ok_X7_knownHero rfl rfl ⟨Nat.le_of_ble_eq_true rfl, Nat.le_of_ble_eq_true rfl⟩), htg _ k1035, htg _ k16⟩ ⟨(q_pre [.ref x0, .int n1] hPc hDc hK hS hT hFc).1, va_recv hK hP (ci := 8) (q0 := 0) rfl rfl, (q_pre [.ref x0, .int n1] hPc hDc hK hS hT hFc).2⟩ rfl rfl hl.1 rfl (lv_room (Nat.le_of_ble_eq_true rfl)) dX7_has_2 ⟨Nat.le_of_ble_eq_true rfl, Nat.le_of_ble_eq_true rfl⟩) hP hD hS hFc [0, 1] [] rfl rfl (by decide) (by decide) (fun E9 ce9 q9 H locs hpx hP hD hS hq1 hq2 hq3 => ?_) (fun r9 u9 H locs hw hP hD hS => ?_)
  · exact vx_out (hnoX _) B.notSynchronized hq1 hq2 hq3 (fun t ht hv => ⟨E9, hpx, rfl, hS.F ht⟩) hS.2.2 (Nat.le_of_ble_eq_true rfl) (Nat.le_of_ble_eq_true rfl)
  · exact hw.elim

set_option maxHeartbeats 4000000 in
set_option maxRecDepth 100000 in
theorem c_X7_canReact (l : Launch) (hfl : l.stackTraces = false) (g : GP) (x0 : Nat) (t0 : Nat) (th : Nat) (ts : Nat) (tg : Nat) (td : Nat) (tr : Nat) (u0 : Nat) (k0 : Nat) (n1 : Int32)  : XI l yX7_canReact (wG yX7_canReact cX7_canReact 3 (Option.some Jvm.ClassFile.FieldType.boolean)) (LV 6 1 6) g [.ref x0, .int n1] ([(x0, .inr (8, [.ref t0, .ref u0, .ref k0])), (t0, .inr (6, [.ref th, .ref ts, .ref tg, .ref td, .int 0, .ref tr, .int (-1), .int 0, .int 0, .int 0, .long 0, .int 0, .int 0]))]) (fun (r : Int32) (u : va_W) => False) (fun E : String => (E = "java/lang/IndexOutOfBoundsException")) := by
  intro sz
  refine vx_ofW (cc := cX7_canReact) (maxL := 3) (ret := (Option.some Jvm.ClassFile.FieldType.boolean)) (by decide) rfl ?_
  intro p e s m args below meth c s₁ B hml hno hv
  have hnoX : ∀ (k : Nat), ∀ x ∈ c.exceptionTable.toList, covers x k = false := fun k x h => (hno x h).elim
  obtain ⟨rfl, hsz, hP, hK, hD0, hT0⟩ := hv
  have hx := B.exec
  have hb := B.bytes
  have hr := B.returns
  have hts := atoms_spec (ws := (wG yX7_canReact cX7_canReact 3 (Option.some Jvm.ClassFile.FieldType.boolean))) B.pre
  have htg : ∀ w ∈ G9, w.before _ s = true := fun w h => hts w (List.mem_cons_of_mem _ h)
  have hown : s.vm.findClass "HeroTable" = some m.cls := findClass_of_methodNamed B.named
  have hlocks := B.notSynchronized
  subst hsz
  have hD := hD0.self (sz := s.heap.size)
  have hT := hT0
  clear hT0
  generalize hAe : va_A [(x0, .inr (8, [.ref t0, .ref u0, .ref k0])), (t0, .inr (6, [.ref th, .ref ts, .ref tg, .ref td, .int 0, .ref tr, .int (-1), .int 0, .int 0, .int 0, .long 0, .int 0, .int 0]))] s.heap.size = A at hD hT ⊢
  have hA : ∀ q : Nat, s.heap.size ≤ q → A q := fun q h => by rw [← hAe]; exact Or.inr h
  obtain ⟨H, hH0⟩ : ∃ H, H = s.heap := ⟨_, rfl⟩
  have hS : va_S A s.heap H [] := by rw [hH0]; exact va_S.rf
  have hP : va_P g.1 CLS [(x0, .inr (8, [.ref t0, .ref u0, .ref k0])), (t0, .inr (6, [.ref th, .ref ts, .ref tg, .ref td, .int 0, .ref tr, .int (-1), .int 0, .int 0, .int 0, .long 0, .int 0, .int 0]))] H := by rw [hH0]; exact hP
  rw [← hH0]
  have hl := lv_entry ([.ref x0, .int n1]) (n := 3) (Nat.le_of_ble_eq_true rfl)
  rw [lg_entry_eq]
  generalize (lg_sl ([.ref x0, .int n1]) ++ List.replicate (3 - (lg_sl ([.ref x0, .int n1])).length) Slot.unset).toArray = ls at hl ⊢
  have hl : lv_has ls 3 [(0, .ref x0), (1, .int n1)] := hl
  refine lv_aload_n hx hb dX7_canReact_0 rfl (lv_at hl 0 rfl) ?_
  refine lv_iload_n hx hb dX7_canReact_1 rfl (lv_at hl 1 rfl) ?_
  have hPc := hP.sub (ws' := [(x0, .inr (8, [.ref t0, .ref u0, .ref k0])), (t0, .inr (6, [.ref th, .ref ts, .ref tg, .ref td, .int 0, .ref tr, .int (-1), .int 0, .int 0, .int 0, .long 0, .int 0, .int 0]))]) [0, 1] rfl
  have hDc := hD.sub (ws' := [(x0, .inr (8, [.ref t0, .ref u0, .ref k0])), (t0, .inr (6, [.ref th, .ref ts, .ref tg, .ref td, .int 0, .ref tr, .int (-1), .int 0, .int 0, .int 0, .long 0, .int 0, .int 0]))]) [0, 1] (by decide) rfl
  have hFc := va_free (wc := [(x0, .inr (8, [.ref t0, .ref u0, .ref k0])), (t0, .inr (6, [.ref th, .ref ts, .ref tg, .ref td, .int 0, .ref tr, .int (-1), .int 0, .int 0, .int 0, .long 0, .int 0, .int 0]))]) hD hS hA [0, 1] rfl
  refine q_xi (wr := []) (vx_runV (As := [.int n1]) (rest := []) ⟨hx, hb, hml, hown, htg⟩ (c_X7_knownHero l hfl g x0 t0 th ts tg td tr u0 k0 n1  H.size) ⟨(qB htg k1036 k50 k1033 ok_X7_knownHero rfl rfl ⟨Nat.le_of_ble_eq_true rfl, Nat.le_of_ble_eq_true rfl⟩), htg _ k1035, htg _ k16⟩ ⟨(q_pre [.ref x0, .int n1] hPc hDc hK hS hT hFc).1, va_recv hK hP (ci := 8) (q0 := 0) rfl rfl, (q_pre [.ref x0, .int n1] hPc hDc hK hS hT hFc).2⟩ rfl rfl hl.1 rfl (lv_room (Nat.le_of_ble_eq_true rfl)) dX7_canReact_2 ⟨Nat.le_of_ble_eq_true rfl, Nat.le_of_ble_eq_true rfl⟩) hP hD hS hFc [0, 1] [] rfl rfl (by decide) (by decide) (fun E9 ce9 q9 H locs hpx hP hD hS hq1 hq2 hq3 => ?_) (fun r9 u9 H locs hw hP hD hS => ?_)
  · exact vx_out (hnoX _) B.notSynchronized hq1 hq2 hq3 (fun t ht hv => ⟨E9, hpx, rfl, hS.F ht⟩) hS.2.2 (Nat.le_of_ble_eq_true rfl) (Nat.le_of_ble_eq_true rfl)
  · exact hw.elim

set_option maxHeartbeats 4000000 in
set_option maxRecDepth 100000 in
theorem c_X7_attack (l : Launch) (hfl : l.stackTraces = false) (g : GP) (x0 : Nat) (t0 : Nat) (th : Nat) (ts : Nat) (tg : Nat) (td : Nat) (tr : Nat) (u0 : Nat) (k0 : Nat) (n1 : Int32)  : XI l yX7_attack (wG yX7_attack cX7_attack 3 (Option.some Jvm.ClassFile.FieldType.int)) (LV 6 1 6) g [.ref x0, .int n1] ([(x0, .inr (8, [.ref t0, .ref u0, .ref k0])), (t0, .inr (6, [.ref th, .ref ts, .ref tg, .ref td, .int 0, .ref tr, .int (-1), .int 0, .int 0, .int 0, .long 0, .int 0, .int 0]))]) (fun (r : Int32) (u : va_W) => False) (fun E : String => (E = "java/lang/IndexOutOfBoundsException")) := by
  intro sz
  refine vx_ofW (cc := cX7_attack) (maxL := 3) (ret := (Option.some Jvm.ClassFile.FieldType.int)) (by decide) rfl ?_
  intro p e s m args below meth c s₁ B hml hno hv
  have hnoX : ∀ (k : Nat), ∀ x ∈ c.exceptionTable.toList, covers x k = false := fun k x h => (hno x h).elim
  obtain ⟨rfl, hsz, hP, hK, hD0, hT0⟩ := hv
  have hx := B.exec
  have hb := B.bytes
  have hr := B.returns
  have hts := atoms_spec (ws := (wG yX7_attack cX7_attack 3 (Option.some Jvm.ClassFile.FieldType.int))) B.pre
  have htg : ∀ w ∈ G9, w.before _ s = true := fun w h => hts w (List.mem_cons_of_mem _ h)
  have hown : s.vm.findClass "HeroTable" = some m.cls := findClass_of_methodNamed B.named
  have hlocks := B.notSynchronized
  subst hsz
  have hD := hD0.self (sz := s.heap.size)
  have hT := hT0
  clear hT0
  generalize hAe : va_A [(x0, .inr (8, [.ref t0, .ref u0, .ref k0])), (t0, .inr (6, [.ref th, .ref ts, .ref tg, .ref td, .int 0, .ref tr, .int (-1), .int 0, .int 0, .int 0, .long 0, .int 0, .int 0]))] s.heap.size = A at hD hT ⊢
  have hA : ∀ q : Nat, s.heap.size ≤ q → A q := fun q h => by rw [← hAe]; exact Or.inr h
  obtain ⟨H, hH0⟩ : ∃ H, H = s.heap := ⟨_, rfl⟩
  have hS : va_S A s.heap H [] := by rw [hH0]; exact va_S.rf
  have hP : va_P g.1 CLS [(x0, .inr (8, [.ref t0, .ref u0, .ref k0])), (t0, .inr (6, [.ref th, .ref ts, .ref tg, .ref td, .int 0, .ref tr, .int (-1), .int 0, .int 0, .int 0, .long 0, .int 0, .int 0]))] H := by rw [hH0]; exact hP
  rw [← hH0]
  have hl := lv_entry ([.ref x0, .int n1]) (n := 3) (Nat.le_of_ble_eq_true rfl)
  rw [lg_entry_eq]
  generalize (lg_sl ([.ref x0, .int n1]) ++ List.replicate (3 - (lg_sl ([.ref x0, .int n1])).length) Slot.unset).toArray = ls at hl ⊢
  have hl : lv_has ls 3 [(0, .ref x0), (1, .int n1)] := hl
  refine lv_aload_n hx hb dX7_attack_0 rfl (lv_at hl 0 rfl) ?_
  refine va_get (D := g.1) (ci := 8) (v := .ref t0) (C := RX7) (T := TX7) (N := 3) hx hb htg inG_X7 hown hK hP 0 rfl rfl 0 (by decide) (htg _ k310) (fun _ h9 => h9) rfl dX7_attack_1 ?_
  refine lv_iload_n hx hb dX7_attack_4 rfl (lv_at hl 1 rfl) ?_
  have hPc := hP.sub (ws' := [(t0, .inr (6, [.ref th, .ref ts, .ref tg, .ref td, .int 0, .ref tr, .int (-1), .int 0, .int 0, .int 0, .long 0, .int 0, .int 0]))]) [1] rfl
  have hDc := hD.sub (ws' := [(t0, .inr (6, [.ref th, .ref ts, .ref tg, .ref td, .int 0, .ref tr, .int (-1), .int 0, .int 0, .int 0, .long 0, .int 0, .int 0]))]) [1] (by decide) rfl
  have hFc := va_free (wc := [(t0, .inr (6, [.ref th, .ref ts, .ref tg, .ref td, .int 0, .ref tr, .int (-1), .int 0, .int 0, .int 0, .long 0, .int 0, .int 0]))]) hD hS hA [1] rfl
  refine q_ci (wr := [(x0, .inr (8, [.ref t0, .ref u0, .ref k0]))]) (va_runV (As := [.int n1]) (rest := []) ⟨hx, hb, hml, hown, htg⟩ (c_X5_assail l hfl g t0 th ts tg td tr n1  H.size) ⟨(qB htg k690 k51 k1200 ok_X5_assail rfl rfl ⟨Nat.le_of_ble_eq_true rfl, Nat.le_of_ble_eq_true rfl⟩), htg _ k688, htg _ k689⟩ ⟨(q_pre [.ref t0, .int n1] hPc hDc hK hS hT hFc).1, va_recv hK hP (ci := 6) (q0 := 1) rfl rfl, (q_pre [.ref t0, .int n1] hPc hDc hK hS hT hFc).2⟩ rfl rfl hl.1 rfl (lv_room (Nat.le_of_ble_eq_true rfl)) dX7_attack_5 ⟨Nat.le_of_ble_eq_true rfl, Nat.le_of_ble_eq_true rfl⟩) hP hD hS hFc [1] [0] rfl rfl (by decide) (by decide) (fun r9 u9 H locs hw hP hD hS => ?_)
  try dsimp only at hw
  rcases hw with ⟨rfl, rfl⟩
  have hP : va_P g.1 CLS [(x0, .inr (8, [.ref t0, .ref u0, .ref k0])), (t0, .inr (6, [.ref th, .ref ts, .ref tg, .ref td, .int 0, .ref tr, .int (-1), .int 0, .int 0, .int 0, .long 0, .int 0, .int 0]))] H := hP
  have hD : va_D A [(x0, .inr (8, [.ref t0, .ref u0, .ref k0])), (t0, .inr (6, [.ref th, .ref ts, .ref tg, .ref td, .int 0, .ref tr, .int (-1), .int 0, .int 0, .int 0, .long 0, .int 0, .int 0]))] := hD
  refine W.widen (k := 0) (n := 0) (Nat.le_of_ble_eq_true rfl) (Nat.le_of_ble_eq_true rfl) ?_
  have hPc := hP.sub (ws' := []) [] rfl
  have hDc := hD.sub (ws' := []) [] (by decide) rfl
  have hFc := va_free (wc := []) hD hS hA [] rfl
  refine q_xi (wr := [(x0, .inr (8, [.ref t0, .ref u0, .ref k0])), (t0, .inr (6, [.ref th, .ref ts, .ref tg, .ref td, .int 0, .ref tr, .int (-1), .int 0, .int 0, .int 0, .long 0, .int 0, .int 0]))]) (vx_runS (As := [.int (-1000001)]) (rest := []) ⟨hx, hb, hml, hown, htg⟩ (c_ans_1000001 l hfl g   H.size) ⟨(qB htg k827 k50 k825 ok_X7_answered rfl rfl ⟨Nat.le_of_ble_eq_true rfl, Nat.le_of_ble_eq_true rfl⟩), htg _ k826⟩ (q_pre [.int (-1000001)] hPc hDc hK hS hT hFc) rfl rfl hl.1 rfl (lv_room (Nat.le_of_ble_eq_true rfl)) dX7_attack_8 ⟨Nat.le_of_ble_eq_true rfl, Nat.le_of_ble_eq_true rfl⟩) hP hD hS hFc [] [0, 1] rfl rfl (by decide) (by decide) (fun E9 ce9 q9 H locs hpx hP hD hS hq1 hq2 hq3 => ?_) (fun r9 u9 H locs hw hP hD hS => ?_)
  · exact vx_out (hnoX _) B.notSynchronized hq1 hq2 hq3 (fun t ht hv => ⟨E9, hpx, rfl, hS.F ht⟩) hS.2.2 (Nat.le_of_ble_eq_true rfl) (Nat.le_of_ble_eq_true rfl)
  · exact hw.elim

set_option maxHeartbeats 4000000 in
set_option maxRecDepth 100000 in
theorem c_X7_slots (l : Launch) (hfl : l.stackTraces = false) (g : GP) (x0 : Nat) (t0 : Nat) (th : Nat) (ts : Nat) (tg : Nat) (td : Nat) (tr : Nat) (u0 : Nat) (k0 : Nat) (n1 : Int32)  : XI l yX7_slots (wG yX7_slots cX7_slots 2 (Option.some Jvm.ClassFile.FieldType.int)) (LV 6 1 6) g [.ref x0, .int n1] ([(x0, .inr (8, [.ref t0, .ref u0, .ref k0])), (t0, .inr (6, [.ref th, .ref ts, .ref tg, .ref td, .int 0, .ref tr, .int (-1), .int 0, .int 0, .int 0, .long 0, .int 0, .int 0]))]) (fun (r : Int32) (u : va_W) => False) (fun E : String => (E = "java/lang/IndexOutOfBoundsException")) := by
  intro sz
  refine vx_ofW (cc := cX7_slots) (maxL := 2) (ret := (Option.some Jvm.ClassFile.FieldType.int)) (by decide) rfl ?_
  intro p e s m args below meth c s₁ B hml hno hv
  have hnoX : ∀ (k : Nat), ∀ x ∈ c.exceptionTable.toList, covers x k = false := fun k x h => (hno x h).elim
  obtain ⟨rfl, hsz, hP, hK, hD0, hT0⟩ := hv
  have hx := B.exec
  have hb := B.bytes
  have hr := B.returns
  have hts := atoms_spec (ws := (wG yX7_slots cX7_slots 2 (Option.some Jvm.ClassFile.FieldType.int))) B.pre
  have htg : ∀ w ∈ G9, w.before _ s = true := fun w h => hts w (List.mem_cons_of_mem _ h)
  have hown : s.vm.findClass "HeroTable" = some m.cls := findClass_of_methodNamed B.named
  have hlocks := B.notSynchronized
  subst hsz
  have hD := hD0.self (sz := s.heap.size)
  have hT := hT0
  clear hT0
  generalize hAe : va_A [(x0, .inr (8, [.ref t0, .ref u0, .ref k0])), (t0, .inr (6, [.ref th, .ref ts, .ref tg, .ref td, .int 0, .ref tr, .int (-1), .int 0, .int 0, .int 0, .long 0, .int 0, .int 0]))] s.heap.size = A at hD hT ⊢
  have hA : ∀ q : Nat, s.heap.size ≤ q → A q := fun q h => by rw [← hAe]; exact Or.inr h
  obtain ⟨H, hH0⟩ : ∃ H, H = s.heap := ⟨_, rfl⟩
  have hS : va_S A s.heap H [] := by rw [hH0]; exact va_S.rf
  have hP : va_P g.1 CLS [(x0, .inr (8, [.ref t0, .ref u0, .ref k0])), (t0, .inr (6, [.ref th, .ref ts, .ref tg, .ref td, .int 0, .ref tr, .int (-1), .int 0, .int 0, .int 0, .long 0, .int 0, .int 0]))] H := by rw [hH0]; exact hP
  rw [← hH0]
  have hl := lv_entry ([.ref x0, .int n1]) (n := 2) (Nat.le_of_ble_eq_true rfl)
  rw [lg_entry_eq]
  generalize (lg_sl ([.ref x0, .int n1]) ++ List.replicate (2 - (lg_sl ([.ref x0, .int n1])).length) Slot.unset).toArray = ls at hl ⊢
  have hl : lv_has ls 2 [(0, .ref x0), (1, .int n1)] := hl
  refine lv_aload_n hx hb dX7_slots_0 rfl (lv_at hl 0 rfl) ?_
  refine lv_iload_n hx hb dX7_slots_1 rfl (lv_at hl 1 rfl) ?_
  have hPc := hP.sub (ws' := [(x0, .inr (8, [.ref t0, .ref u0, .ref k0])), (t0, .inr (6, [.ref th, .ref ts, .ref tg, .ref td, .int 0, .ref tr, .int (-1), .int 0, .int 0, .int 0, .long 0, .int 0, .int 0]))]) [0, 1] rfl
  have hDc := hD.sub (ws' := [(x0, .inr (8, [.ref t0, .ref u0, .ref k0])), (t0, .inr (6, [.ref th, .ref ts, .ref tg, .ref td, .int 0, .ref tr, .int (-1), .int 0, .int 0, .int 0, .long 0, .int 0, .int 0]))]) [0, 1] (by decide) rfl
  have hFc := va_free (wc := [(x0, .inr (8, [.ref t0, .ref u0, .ref k0])), (t0, .inr (6, [.ref th, .ref ts, .ref tg, .ref td, .int 0, .ref tr, .int (-1), .int 0, .int 0, .int 0, .long 0, .int 0, .int 0]))]) hD hS hA [0, 1] rfl
  refine q_xi (wr := []) (vx_runV (As := [.int n1]) (rest := []) ⟨hx, hb, hml, hown, htg⟩ (c_X7_knownHero l hfl g x0 t0 th ts tg td tr u0 k0 n1  H.size) ⟨(qB htg k1036 k50 k1033 ok_X7_knownHero rfl rfl ⟨Nat.le_of_ble_eq_true rfl, Nat.le_of_ble_eq_true rfl⟩), htg _ k1035, htg _ k16⟩ ⟨(q_pre [.ref x0, .int n1] hPc hDc hK hS hT hFc).1, va_recv hK hP (ci := 8) (q0 := 0) rfl rfl, (q_pre [.ref x0, .int n1] hPc hDc hK hS hT hFc).2⟩ rfl rfl hl.1 rfl (lv_room (Nat.le_of_ble_eq_true rfl)) dX7_slots_2 ⟨Nat.le_of_ble_eq_true rfl, Nat.le_of_ble_eq_true rfl⟩) hP hD hS hFc [0, 1] [] rfl rfl (by decide) (by decide) (fun E9 ce9 q9 H locs hpx hP hD hS hq1 hq2 hq3 => ?_) (fun r9 u9 H locs hw hP hD hS => ?_)
  · exact vx_out (hnoX _) B.notSynchronized hq1 hq2 hq3 (fun t ht hv => ⟨E9, hpx, rfl, hS.F ht⟩) hS.2.2 (Nat.le_of_ble_eq_true rfl) (Nat.le_of_ble_eq_true rfl)
  · exact hw.elim

set_option maxHeartbeats 4000000 in
set_option maxRecDepth 100000 in
theorem c_X7_minds (l : Launch) (hfl : l.stackTraces = false) (g : GP) (x0 : Nat) (t0 : Nat) (th : Nat) (ts : Nat) (tg : Nat) (td : Nat) (tr : Nat) (u0 : Nat) (k0 : Nat) (n1 : Int32)  : XI l yX7_minds (wG yX7_minds cX7_minds 2 (Option.some Jvm.ClassFile.FieldType.boolean)) (LV 6 1 6) g [.ref x0, .int n1] ([(x0, .inr (8, [.ref t0, .ref u0, .ref k0])), (t0, .inr (6, [.ref th, .ref ts, .ref tg, .ref td, .int 0, .ref tr, .int (-1), .int 0, .int 0, .int 0, .long 0, .int 0, .int 0]))]) (fun (r : Int32) (u : va_W) => False) (fun E : String => (E = "java/lang/IndexOutOfBoundsException")) := by
  intro sz
  refine vx_ofW (cc := cX7_minds) (maxL := 2) (ret := (Option.some Jvm.ClassFile.FieldType.boolean)) (by decide) rfl ?_
  intro p e s m args below meth c s₁ B hml hno hv
  have hnoX : ∀ (k : Nat), ∀ x ∈ c.exceptionTable.toList, covers x k = false := fun k x h => (hno x h).elim
  obtain ⟨rfl, hsz, hP, hK, hD0, hT0⟩ := hv
  have hx := B.exec
  have hb := B.bytes
  have hr := B.returns
  have hts := atoms_spec (ws := (wG yX7_minds cX7_minds 2 (Option.some Jvm.ClassFile.FieldType.boolean))) B.pre
  have htg : ∀ w ∈ G9, w.before _ s = true := fun w h => hts w (List.mem_cons_of_mem _ h)
  have hown : s.vm.findClass "HeroTable" = some m.cls := findClass_of_methodNamed B.named
  have hlocks := B.notSynchronized
  subst hsz
  have hD := hD0.self (sz := s.heap.size)
  have hT := hT0
  clear hT0
  generalize hAe : va_A [(x0, .inr (8, [.ref t0, .ref u0, .ref k0])), (t0, .inr (6, [.ref th, .ref ts, .ref tg, .ref td, .int 0, .ref tr, .int (-1), .int 0, .int 0, .int 0, .long 0, .int 0, .int 0]))] s.heap.size = A at hD hT ⊢
  have hA : ∀ q : Nat, s.heap.size ≤ q → A q := fun q h => by rw [← hAe]; exact Or.inr h
  obtain ⟨H, hH0⟩ : ∃ H, H = s.heap := ⟨_, rfl⟩
  have hS : va_S A s.heap H [] := by rw [hH0]; exact va_S.rf
  have hP : va_P g.1 CLS [(x0, .inr (8, [.ref t0, .ref u0, .ref k0])), (t0, .inr (6, [.ref th, .ref ts, .ref tg, .ref td, .int 0, .ref tr, .int (-1), .int 0, .int 0, .int 0, .long 0, .int 0, .int 0]))] H := by rw [hH0]; exact hP
  rw [← hH0]
  have hl := lv_entry ([.ref x0, .int n1]) (n := 2) (Nat.le_of_ble_eq_true rfl)
  rw [lg_entry_eq]
  generalize (lg_sl ([.ref x0, .int n1]) ++ List.replicate (2 - (lg_sl ([.ref x0, .int n1])).length) Slot.unset).toArray = ls at hl ⊢
  have hl : lv_has ls 2 [(0, .ref x0), (1, .int n1)] := hl
  refine lv_aload_n hx hb dX7_minds_0 rfl (lv_at hl 0 rfl) ?_
  refine lv_iload_n hx hb dX7_minds_1 rfl (lv_at hl 1 rfl) ?_
  have hPc := hP.sub (ws' := [(x0, .inr (8, [.ref t0, .ref u0, .ref k0])), (t0, .inr (6, [.ref th, .ref ts, .ref tg, .ref td, .int 0, .ref tr, .int (-1), .int 0, .int 0, .int 0, .long 0, .int 0, .int 0]))]) [0, 1] rfl
  have hDc := hD.sub (ws' := [(x0, .inr (8, [.ref t0, .ref u0, .ref k0])), (t0, .inr (6, [.ref th, .ref ts, .ref tg, .ref td, .int 0, .ref tr, .int (-1), .int 0, .int 0, .int 0, .long 0, .int 0, .int 0]))]) [0, 1] (by decide) rfl
  have hFc := va_free (wc := [(x0, .inr (8, [.ref t0, .ref u0, .ref k0])), (t0, .inr (6, [.ref th, .ref ts, .ref tg, .ref td, .int 0, .ref tr, .int (-1), .int 0, .int 0, .int 0, .long 0, .int 0, .int 0]))]) hD hS hA [0, 1] rfl
  refine q_xi (wr := []) (vx_runV (As := [.int n1]) (rest := []) ⟨hx, hb, hml, hown, htg⟩ (c_X7_knownHero l hfl g x0 t0 th ts tg td tr u0 k0 n1  H.size) ⟨(qB htg k1036 k50 k1033 ok_X7_knownHero rfl rfl ⟨Nat.le_of_ble_eq_true rfl, Nat.le_of_ble_eq_true rfl⟩), htg _ k1035, htg _ k16⟩ ⟨(q_pre [.ref x0, .int n1] hPc hDc hK hS hT hFc).1, va_recv hK hP (ci := 8) (q0 := 0) rfl rfl, (q_pre [.ref x0, .int n1] hPc hDc hK hS hT hFc).2⟩ rfl rfl hl.1 rfl (lv_room (Nat.le_of_ble_eq_true rfl)) dX7_minds_2 ⟨Nat.le_of_ble_eq_true rfl, Nat.le_of_ble_eq_true rfl⟩) hP hD hS hFc [0, 1] [] rfl rfl (by decide) (by decide) (fun E9 ce9 q9 H locs hpx hP hD hS hq1 hq2 hq3 => ?_) (fun r9 u9 H locs hw hP hD hS => ?_)
  · exact vx_out (hnoX _) B.notSynchronized hq1 hq2 hq3 (fun t ht hv => ⟨E9, hpx, rfl, hS.F ht⟩) hS.2.2 (Nat.le_of_ble_eq_true rfl) (Nat.le_of_ble_eq_true rfl)
  · exact hw.elim

set_option maxHeartbeats 4000000 in
set_option maxRecDepth 100000 in
theorem c_X7_setImmune (l : Launch) (hfl : l.stackTraces = false) (g : GP) (x0 : Nat) (t0 : Nat) (th : Nat) (ts : Nat) (tg : Nat) (td : Nat) (tr : Nat) (u0 : Nat) (k0 : Nat) (n1 : Int32) (n2 : Int32) (n3 : Int32)  : XI l yX7_setImmune (wG yX7_setImmune cX7_setImmune 6 (Option.some Jvm.ClassFile.FieldType.boolean)) (LV 6 1 6) g [.ref x0, .int n1, .int n2, .int n3] ([(x0, .inr (8, [.ref t0, .ref u0, .ref k0])), (t0, .inr (6, [.ref th, .ref ts, .ref tg, .ref td, .int 0, .ref tr, .int (-1), .int 0, .int 0, .int 0, .long 0, .int 0, .int 0]))]) (fun (r : Int32) (u : va_W) => False) (fun E : String => (E = "java/lang/IndexOutOfBoundsException")) := by
  intro sz
  refine vx_ofW (cc := cX7_setImmune) (maxL := 6) (ret := (Option.some Jvm.ClassFile.FieldType.boolean)) (by decide) rfl ?_
  intro p e s m args below meth c s₁ B hml hno hv
  have hnoX : ∀ (k : Nat), ∀ x ∈ c.exceptionTable.toList, covers x k = false := fun k x h => (hno x h).elim
  obtain ⟨rfl, hsz, hP, hK, hD0, hT0⟩ := hv
  have hx := B.exec
  have hb := B.bytes
  have hr := B.returns
  have hts := atoms_spec (ws := (wG yX7_setImmune cX7_setImmune 6 (Option.some Jvm.ClassFile.FieldType.boolean))) B.pre
  have htg : ∀ w ∈ G9, w.before _ s = true := fun w h => hts w (List.mem_cons_of_mem _ h)
  have hown : s.vm.findClass "HeroTable" = some m.cls := findClass_of_methodNamed B.named
  have hlocks := B.notSynchronized
  subst hsz
  have hD := hD0.self (sz := s.heap.size)
  have hT := hT0
  clear hT0
  generalize hAe : va_A [(x0, .inr (8, [.ref t0, .ref u0, .ref k0])), (t0, .inr (6, [.ref th, .ref ts, .ref tg, .ref td, .int 0, .ref tr, .int (-1), .int 0, .int 0, .int 0, .long 0, .int 0, .int 0]))] s.heap.size = A at hD hT ⊢
  have hA : ∀ q : Nat, s.heap.size ≤ q → A q := fun q h => by rw [← hAe]; exact Or.inr h
  obtain ⟨H, hH0⟩ : ∃ H, H = s.heap := ⟨_, rfl⟩
  have hS : va_S A s.heap H [] := by rw [hH0]; exact va_S.rf
  have hP : va_P g.1 CLS [(x0, .inr (8, [.ref t0, .ref u0, .ref k0])), (t0, .inr (6, [.ref th, .ref ts, .ref tg, .ref td, .int 0, .ref tr, .int (-1), .int 0, .int 0, .int 0, .long 0, .int 0, .int 0]))] H := by rw [hH0]; exact hP
  rw [← hH0]
  have hl := lv_entry ([.ref x0, .int n1, .int n2, .int n3]) (n := 6) (Nat.le_of_ble_eq_true rfl)
  rw [lg_entry_eq]
  generalize (lg_sl ([.ref x0, .int n1, .int n2, .int n3]) ++ List.replicate (6 - (lg_sl ([.ref x0, .int n1, .int n2, .int n3])).length) Slot.unset).toArray = ls at hl ⊢
  have hl : lv_has ls 6 [(0, .ref x0), (1, .int n1), (2, .int n2), (3, .int n3)] := hl
  refine lv_iload_n hx hb dX7_setImmune_0 rfl (lv_at hl 3 rfl) ?_
  refine lv_if_eq (tgt := 8) hx hb dX7_setImmune_1 (by decide) (fun c_1 => ?_) (fun c_1 => ?_)
  · refine lv_iconst (v := 0) hx hb dX7_setImmune_8 (by decide) ?_
    refine lv_istore (lv' := [(4, .int 0), (0, .ref x0), (1, .int n1), (2, .int n2), (3, .int n3)]) hx hb dX7_setImmune_9 hl (by decide) rfl (fun ls hl => ?_)
    refine lv_aload_n hx hb dX7_setImmune_11 rfl (lv_at hl 1 rfl) ?_
    refine va_get (D := g.1) (ci := 8) (v := .ref t0) (C := RX7) (T := TX7) (N := 3) hx hb htg inG_X7 hown hK hP 0 rfl rfl 0 (by decide) (htg _ k310) (fun _ h9 => h9) rfl dX7_setImmune_12 ?_
    refine lv_iload_n hx hb dX7_setImmune_15 rfl (lv_at hl 2 rfl) ?_
    refine lv_iload_n hx hb dX7_setImmune_16 rfl (lv_at hl 3 rfl) ?_
    refine lv_iload hx hb dX7_setImmune_17 (lv_at hl 0 rfl) ?_
    have hPc := hP.sub (ws' := [(t0, .inr (6, [.ref th, .ref ts, .ref tg, .ref td, .int 0, .ref tr, .int (-1), .int 0, .int 0, .int 0, .long 0, .int 0, .int 0]))]) [1] rfl
    have hDc := hD.sub (ws' := [(t0, .inr (6, [.ref th, .ref ts, .ref tg, .ref td, .int 0, .ref tr, .int (-1), .int 0, .int 0, .int 0, .long 0, .int 0, .int 0]))]) [1] (by decide) rfl
    have hFc := va_free (wc := [(t0, .inr (6, [.ref th, .ref ts, .ref tg, .ref td, .int 0, .ref tr, .int (-1), .int 0, .int 0, .int 0, .long 0, .int 0, .int 0]))]) hD hS hA [1] rfl
    refine q_ci (wr := [(x0, .inr (8, [.ref t0, .ref u0, .ref k0]))]) (va_runV (As := [.int n1, .int n2, .int 0]) (rest := []) ⟨hx, hb, hml, hown, htg⟩ (c_X5_changeImmunity l hfl g t0 th ts tg td tr n1 n2 0  H.size) ⟨(qB htg k614 k51 k1094 ok_X5_changeImmunity rfl rfl ⟨Nat.le_of_ble_eq_true rfl, Nat.le_of_ble_eq_true rfl⟩), htg _ k612, htg _ k613⟩ ⟨(q_pre [.ref t0, .int n1, .int n2, .int 0] hPc hDc hK hS hT hFc).1, va_recv hK hP (ci := 6) (q0 := 1) rfl rfl, (q_pre [.ref t0, .int n1, .int n2, .int 0] hPc hDc hK hS hT hFc).2⟩ rfl rfl hl.1 rfl (lv_room (Nat.le_of_ble_eq_true rfl)) dX7_setImmune_19 ⟨Nat.le_of_ble_eq_true rfl, Nat.le_of_ble_eq_true rfl⟩) hP hD hS hFc [1] [0] rfl rfl (by decide) (by decide) (fun r9 u9 H locs hw hP hD hS => ?_)
    try dsimp only at hw
    rcases hw with ⟨rfl, rfl⟩
    have hP : va_P g.1 CLS [(x0, .inr (8, [.ref t0, .ref u0, .ref k0])), (t0, .inr (6, [.ref th, .ref ts, .ref tg, .ref td, .int 0, .ref tr, .int (-1), .int 0, .int 0, .int 0, .long 0, .int 0, .int 0]))] H := hP
    have hD : va_D A [(x0, .inr (8, [.ref t0, .ref u0, .ref k0])), (t0, .inr (6, [.ref th, .ref ts, .ref tg, .ref td, .int 0, .ref tr, .int (-1), .int 0, .int 0, .int 0, .long 0, .int 0, .int 0]))] := hD
    refine W.widen (k := 0) (n := 0) (Nat.le_of_ble_eq_true rfl) (Nat.le_of_ble_eq_true rfl) ?_
    have hPc := hP.sub (ws' := []) [] rfl
    have hDc := hD.sub (ws' := []) [] (by decide) rfl
    have hFc := va_free (wc := []) hD hS hA [] rfl
    refine q_xi (wr := [(x0, .inr (8, [.ref t0, .ref u0, .ref k0])), (t0, .inr (6, [.ref th, .ref ts, .ref tg, .ref td, .int 0, .ref tr, .int (-1), .int 0, .int 0, .int 0, .long 0, .int 0, .int 0]))]) (vx_runS (As := [.int (-1000001)]) (rest := []) ⟨hx, hb, hml, hown, htg⟩ (c_ans_1000001 l hfl g   H.size) ⟨(qB htg k827 k50 k825 ok_X7_answered rfl rfl ⟨Nat.le_of_ble_eq_true rfl, Nat.le_of_ble_eq_true rfl⟩), htg _ k826⟩ (q_pre [.int (-1000001)] hPc hDc hK hS hT hFc) rfl rfl hl.1 rfl (lv_room (Nat.le_of_ble_eq_true rfl)) dX7_setImmune_22 ⟨Nat.le_of_ble_eq_true rfl, Nat.le_of_ble_eq_true rfl⟩) hP hD hS hFc [] [0, 1] rfl rfl (by decide) (by decide) (fun E9 ce9 q9 H locs hpx hP hD hS hq1 hq2 hq3 => ?_) (fun r9 u9 H locs hw hP hD hS => ?_)
    · exact vx_out (hnoX _) B.notSynchronized hq1 hq2 hq3 (fun t ht hv => ⟨E9, hpx, rfl, hS.F ht⟩) hS.2.2 (Nat.le_of_ble_eq_true rfl) (Nat.le_of_ble_eq_true rfl)
    · exact hw.elim
  · refine lv_iconst (v := 1) hx hb dX7_setImmune_4 (by decide) ?_
    refine lv_goto (tgt := 9) hx hb dX7_setImmune_5 (by decide) ?_
    refine lv_istore (lv' := [(4, .int 1), (0, .ref x0), (1, .int n1), (2, .int n2), (3, .int n3)]) hx hb dX7_setImmune_9 hl (by decide) rfl (fun ls hl => ?_)
    refine lv_aload_n hx hb dX7_setImmune_11 rfl (lv_at hl 1 rfl) ?_
    refine va_get (D := g.1) (ci := 8) (v := .ref t0) (C := RX7) (T := TX7) (N := 3) hx hb htg inG_X7 hown hK hP 0 rfl rfl 0 (by decide) (htg _ k310) (fun _ h9 => h9) rfl dX7_setImmune_12 ?_
    refine lv_iload_n hx hb dX7_setImmune_15 rfl (lv_at hl 2 rfl) ?_
    refine lv_iload_n hx hb dX7_setImmune_16 rfl (lv_at hl 3 rfl) ?_
    refine lv_iload hx hb dX7_setImmune_17 (lv_at hl 0 rfl) ?_
    have hPc := hP.sub (ws' := [(t0, .inr (6, [.ref th, .ref ts, .ref tg, .ref td, .int 0, .ref tr, .int (-1), .int 0, .int 0, .int 0, .long 0, .int 0, .int 0]))]) [1] rfl
    have hDc := hD.sub (ws' := [(t0, .inr (6, [.ref th, .ref ts, .ref tg, .ref td, .int 0, .ref tr, .int (-1), .int 0, .int 0, .int 0, .long 0, .int 0, .int 0]))]) [1] (by decide) rfl
    have hFc := va_free (wc := [(t0, .inr (6, [.ref th, .ref ts, .ref tg, .ref td, .int 0, .ref tr, .int (-1), .int 0, .int 0, .int 0, .long 0, .int 0, .int 0]))]) hD hS hA [1] rfl
    refine q_ci (wr := [(x0, .inr (8, [.ref t0, .ref u0, .ref k0]))]) (va_runV (As := [.int n1, .int n2, .int 1]) (rest := []) ⟨hx, hb, hml, hown, htg⟩ (c_X5_changeImmunity l hfl g t0 th ts tg td tr n1 n2 1  H.size) ⟨(qB htg k614 k51 k1094 ok_X5_changeImmunity rfl rfl ⟨Nat.le_of_ble_eq_true rfl, Nat.le_of_ble_eq_true rfl⟩), htg _ k612, htg _ k613⟩ ⟨(q_pre [.ref t0, .int n1, .int n2, .int 1] hPc hDc hK hS hT hFc).1, va_recv hK hP (ci := 6) (q0 := 1) rfl rfl, (q_pre [.ref t0, .int n1, .int n2, .int 1] hPc hDc hK hS hT hFc).2⟩ rfl rfl hl.1 rfl (lv_room (Nat.le_of_ble_eq_true rfl)) dX7_setImmune_19 ⟨Nat.le_of_ble_eq_true rfl, Nat.le_of_ble_eq_true rfl⟩) hP hD hS hFc [1] [0] rfl rfl (by decide) (by decide) (fun r9 u9 H locs hw hP hD hS => ?_)
    try dsimp only at hw
    rcases hw with ⟨rfl, rfl⟩
    have hP : va_P g.1 CLS [(x0, .inr (8, [.ref t0, .ref u0, .ref k0])), (t0, .inr (6, [.ref th, .ref ts, .ref tg, .ref td, .int 0, .ref tr, .int (-1), .int 0, .int 0, .int 0, .long 0, .int 0, .int 0]))] H := hP
    have hD : va_D A [(x0, .inr (8, [.ref t0, .ref u0, .ref k0])), (t0, .inr (6, [.ref th, .ref ts, .ref tg, .ref td, .int 0, .ref tr, .int (-1), .int 0, .int 0, .int 0, .long 0, .int 0, .int 0]))] := hD
    refine W.widen (k := 0) (n := 0) (Nat.le_of_ble_eq_true rfl) (Nat.le_of_ble_eq_true rfl) ?_
    have hPc := hP.sub (ws' := []) [] rfl
    have hDc := hD.sub (ws' := []) [] (by decide) rfl
    have hFc := va_free (wc := []) hD hS hA [] rfl
    refine q_xi (wr := [(x0, .inr (8, [.ref t0, .ref u0, .ref k0])), (t0, .inr (6, [.ref th, .ref ts, .ref tg, .ref td, .int 0, .ref tr, .int (-1), .int 0, .int 0, .int 0, .long 0, .int 0, .int 0]))]) (vx_runS (As := [.int (-1000001)]) (rest := []) ⟨hx, hb, hml, hown, htg⟩ (c_ans_1000001 l hfl g   H.size) ⟨(qB htg k827 k50 k825 ok_X7_answered rfl rfl ⟨Nat.le_of_ble_eq_true rfl, Nat.le_of_ble_eq_true rfl⟩), htg _ k826⟩ (q_pre [.int (-1000001)] hPc hDc hK hS hT hFc) rfl rfl hl.1 rfl (lv_room (Nat.le_of_ble_eq_true rfl)) dX7_setImmune_22 ⟨Nat.le_of_ble_eq_true rfl, Nat.le_of_ble_eq_true rfl⟩) hP hD hS hFc [] [0, 1] rfl rfl (by decide) (by decide) (fun E9 ce9 q9 H locs hpx hP hD hS hq1 hq2 hq3 => ?_) (fun r9 u9 H locs hw hP hD hS => ?_)
    · exact vx_out (hnoX _) B.notSynchronized hq1 hq2 hq3 (fun t ht hv => ⟨E9, hpx, rfl, hS.F ht⟩) hS.2.2 (Nat.le_of_ble_eq_true rfl) (Nat.le_of_ble_eq_true rfl)
    · exact hw.elim

set_option maxHeartbeats 4000000 in
set_option maxRecDepth 100000 in
theorem c_X7_endSource (l : Launch) (hfl : l.stackTraces = false) (g : GP) (x0 : Nat) (t0 : Nat) (th : Nat) (ts : Nat) (tg : Nat) (td : Nat) (tr : Nat) (u0 : Nat) (k0 : Nat) (tw : Nat) (n1 : Int32)  : XI l yX7_endSource (wG yX7_endSource cX7_endSource 3 (Option.some Jvm.ClassFile.FieldType.boolean)) (LV 6 1 6) g [.ref x0, .int n1] ([(x0, .inr (8, [.ref t0, .ref u0, .ref k0])), (t0, .inr (6, [.ref th, .ref ts, .ref tg, .ref td, .int 0, .ref tr, .int (-1), .int 0, .int 0, .int 0, .long 0, .int 0, .int 0])), (ts, .inr (5, [.ref th, .ref tw, .int 0]))]) (fun (r : Int32) (u : va_W) => False) (fun E : String => (E = "java/lang/IndexOutOfBoundsException")) := by
  intro sz
  refine vx_ofW (cc := cX7_endSource) (maxL := 3) (ret := (Option.some Jvm.ClassFile.FieldType.boolean)) (by decide) rfl ?_
  intro p e s m args below meth c s₁ B hml hno hv
  have hnoX : ∀ (k : Nat), ∀ x ∈ c.exceptionTable.toList, covers x k = false := fun k x h => (hno x h).elim
  obtain ⟨rfl, hsz, hP, hK, hD0, hT0⟩ := hv
  have hx := B.exec
  have hb := B.bytes
  have hr := B.returns
  have hts := atoms_spec (ws := (wG yX7_endSource cX7_endSource 3 (Option.some Jvm.ClassFile.FieldType.boolean))) B.pre
  have htg : ∀ w ∈ G9, w.before _ s = true := fun w h => hts w (List.mem_cons_of_mem _ h)
  have hown : s.vm.findClass "HeroTable" = some m.cls := findClass_of_methodNamed B.named
  have hlocks := B.notSynchronized
  subst hsz
  have hD := hD0.self (sz := s.heap.size)
  have hT := hT0
  clear hT0
  generalize hAe : va_A [(x0, .inr (8, [.ref t0, .ref u0, .ref k0])), (t0, .inr (6, [.ref th, .ref ts, .ref tg, .ref td, .int 0, .ref tr, .int (-1), .int 0, .int 0, .int 0, .long 0, .int 0, .int 0])), (ts, .inr (5, [.ref th, .ref tw, .int 0]))] s.heap.size = A at hD hT ⊢
  have hA : ∀ q : Nat, s.heap.size ≤ q → A q := fun q h => by rw [← hAe]; exact Or.inr h
  obtain ⟨H, hH0⟩ : ∃ H, H = s.heap := ⟨_, rfl⟩
  have hS : va_S A s.heap H [] := by rw [hH0]; exact va_S.rf
  have hP : va_P g.1 CLS [(x0, .inr (8, [.ref t0, .ref u0, .ref k0])), (t0, .inr (6, [.ref th, .ref ts, .ref tg, .ref td, .int 0, .ref tr, .int (-1), .int 0, .int 0, .int 0, .long 0, .int 0, .int 0])), (ts, .inr (5, [.ref th, .ref tw, .int 0]))] H := by rw [hH0]; exact hP
  rw [← hH0]
  have hl := lv_entry ([.ref x0, .int n1]) (n := 3) (Nat.le_of_ble_eq_true rfl)
  rw [lg_entry_eq]
  generalize (lg_sl ([.ref x0, .int n1]) ++ List.replicate (3 - (lg_sl ([.ref x0, .int n1])).length) Slot.unset).toArray = ls at hl ⊢
  have hl : lv_has ls 3 [(0, .ref x0), (1, .int n1)] := hl
  refine lv_aload_n hx hb dX7_endSource_0 rfl (lv_at hl 0 rfl) ?_
  refine va_get (D := g.1) (ci := 8) (v := .ref t0) (C := RX7) (T := TX7) (N := 3) hx hb htg inG_X7 hown hK hP 0 rfl rfl 0 (by decide) (htg _ k310) (fun _ h9 => h9) rfl dX7_endSource_1 ?_
  refine lv_iload_n hx hb dX7_endSource_4 rfl (lv_at hl 1 rfl) ?_
  have hPc := hP.sub (ws' := [(t0, .inr (6, [.ref th, .ref ts, .ref tg, .ref td, .int 0, .ref tr, .int (-1), .int 0, .int 0, .int 0, .long 0, .int 0, .int 0])), (ts, .inr (5, [.ref th, .ref tw, .int 0]))]) [1, 2] rfl
  have hDc := hD.sub (ws' := [(t0, .inr (6, [.ref th, .ref ts, .ref tg, .ref td, .int 0, .ref tr, .int (-1), .int 0, .int 0, .int 0, .long 0, .int 0, .int 0])), (ts, .inr (5, [.ref th, .ref tw, .int 0]))]) [1, 2] (by decide) rfl
  have hFc := va_free (wc := [(t0, .inr (6, [.ref th, .ref ts, .ref tg, .ref td, .int 0, .ref tr, .int (-1), .int 0, .int 0, .int 0, .long 0, .int 0, .int 0])), (ts, .inr (5, [.ref th, .ref tw, .int 0]))]) hD hS hA [1, 2] rfl
  refine q_ci (wr := [(x0, .inr (8, [.ref t0, .ref u0, .ref k0]))]) (va_runV (As := [.int n1]) (rest := []) ⟨hx, hb, hml, hown, htg⟩ (c_X5_quench l hfl g t0 th ts tg td tr tw n1  H.size) ⟨(qB htg k605 k51 k1086 ok_X5_quench rfl rfl ⟨Nat.le_of_ble_eq_true rfl, Nat.le_of_ble_eq_true rfl⟩), htg _ k603, htg _ k604⟩ ⟨(q_pre [.ref t0, .int n1] hPc hDc hK hS hT hFc).1, va_recv hK hP (ci := 6) (q0 := 1) rfl rfl, (q_pre [.ref t0, .int n1] hPc hDc hK hS hT hFc).2⟩ rfl rfl hl.1 rfl (lv_room (Nat.le_of_ble_eq_true rfl)) dX7_endSource_5 ⟨Nat.le_of_ble_eq_true rfl, Nat.le_of_ble_eq_true rfl⟩) hP hD hS hFc [1, 2] [0] rfl rfl (by decide) (by decide) (fun r9 u9 H locs hw hP hD hS => ?_)
  try dsimp only at hw
  rcases hw with ⟨rfl, rfl⟩
  have hP : va_P g.1 CLS [(x0, .inr (8, [.ref t0, .ref u0, .ref k0])), (t0, .inr (6, [.ref th, .ref ts, .ref tg, .ref td, .int 0, .ref tr, .int (-1), .int 0, .int 0, .int 0, .long 0, .int 0, .int 0])), (ts, .inr (5, [.ref th, .ref tw, .int 0]))] H := hP
  have hD : va_D A [(x0, .inr (8, [.ref t0, .ref u0, .ref k0])), (t0, .inr (6, [.ref th, .ref ts, .ref tg, .ref td, .int 0, .ref tr, .int (-1), .int 0, .int 0, .int 0, .long 0, .int 0, .int 0])), (ts, .inr (5, [.ref th, .ref tw, .int 0]))] := hD
  refine W.widen (k := 0) (n := 0) (Nat.le_of_ble_eq_true rfl) (Nat.le_of_ble_eq_true rfl) ?_
  have hPc := hP.sub (ws' := []) [] rfl
  have hDc := hD.sub (ws' := []) [] (by decide) rfl
  have hFc := va_free (wc := []) hD hS hA [] rfl
  refine q_xi (wr := [(x0, .inr (8, [.ref t0, .ref u0, .ref k0])), (t0, .inr (6, [.ref th, .ref ts, .ref tg, .ref td, .int 0, .ref tr, .int (-1), .int 0, .int 0, .int 0, .long 0, .int 0, .int 0])), (ts, .inr (5, [.ref th, .ref tw, .int 0]))]) (vx_runS (As := [.int (-1000001)]) (rest := []) ⟨hx, hb, hml, hown, htg⟩ (c_ans_1000001 l hfl g   H.size) ⟨(qB htg k827 k50 k825 ok_X7_answered rfl rfl ⟨Nat.le_of_ble_eq_true rfl, Nat.le_of_ble_eq_true rfl⟩), htg _ k826⟩ (q_pre [.int (-1000001)] hPc hDc hK hS hT hFc) rfl rfl hl.1 rfl (lv_room (Nat.le_of_ble_eq_true rfl)) dX7_endSource_8 ⟨Nat.le_of_ble_eq_true rfl, Nat.le_of_ble_eq_true rfl⟩) hP hD hS hFc [] [0, 1, 2] rfl rfl (by decide) (by decide) (fun E9 ce9 q9 H locs hpx hP hD hS hq1 hq2 hq3 => ?_) (fun r9 u9 H locs hw hP hD hS => ?_)
  · exact vx_out (hnoX _) B.notSynchronized hq1 hq2 hq3 (fun t ht hv => ⟨E9, hpx, rfl, hS.F ht⟩) hS.2.2 (Nat.le_of_ble_eq_true rfl) (Nat.le_of_ble_eq_true rfl)
  · exact hw.elim

set_option maxHeartbeats 4000000 in
set_option maxRecDepth 100000 in
theorem c_X7_isLive (l : Launch) (hfl : l.stackTraces = false) (g : GP) (x0 : Nat) (t0 : Nat) (th : Nat) (ts : Nat) (tg : Nat) (td : Nat) (tr : Nat) (u0 : Nat) (k0 : Nat) (tw : Nat) (n1 : Int32)  : XI l yX7_isLive (wG yX7_isLive cX7_isLive 2 (Option.some Jvm.ClassFile.FieldType.boolean)) (LV 6 1 6) g [.ref x0, .int n1] ([(x0, .inr (8, [.ref t0, .ref u0, .ref k0])), (t0, .inr (6, [.ref th, .ref ts, .ref tg, .ref td, .int 0, .ref tr, .int (-1), .int 0, .int 0, .int 0, .long 0, .int 0, .int 0])), (ts, .inr (5, [.ref th, .ref tw, .int 0]))]) (fun (r : Int32) (u : va_W) => False) (fun E : String => (E = "java/lang/IndexOutOfBoundsException")) := by
  intro sz
  refine vx_ofW (cc := cX7_isLive) (maxL := 2) (ret := (Option.some Jvm.ClassFile.FieldType.boolean)) (by decide) rfl ?_
  intro p e s m args below meth c s₁ B hml hno hv
  have hnoX : ∀ (k : Nat), ∀ x ∈ c.exceptionTable.toList, covers x k = false := fun k x h => (hno x h).elim
  obtain ⟨rfl, hsz, hP, hK, hD0, hT0⟩ := hv
  have hx := B.exec
  have hb := B.bytes
  have hr := B.returns
  have hts := atoms_spec (ws := (wG yX7_isLive cX7_isLive 2 (Option.some Jvm.ClassFile.FieldType.boolean))) B.pre
  have htg : ∀ w ∈ G9, w.before _ s = true := fun w h => hts w (List.mem_cons_of_mem _ h)
  have hown : s.vm.findClass "HeroTable" = some m.cls := findClass_of_methodNamed B.named
  have hlocks := B.notSynchronized
  subst hsz
  have hD := hD0.self (sz := s.heap.size)
  have hT := hT0
  clear hT0
  generalize hAe : va_A [(x0, .inr (8, [.ref t0, .ref u0, .ref k0])), (t0, .inr (6, [.ref th, .ref ts, .ref tg, .ref td, .int 0, .ref tr, .int (-1), .int 0, .int 0, .int 0, .long 0, .int 0, .int 0])), (ts, .inr (5, [.ref th, .ref tw, .int 0]))] s.heap.size = A at hD hT ⊢
  have hA : ∀ q : Nat, s.heap.size ≤ q → A q := fun q h => by rw [← hAe]; exact Or.inr h
  obtain ⟨H, hH0⟩ : ∃ H, H = s.heap := ⟨_, rfl⟩
  have hS : va_S A s.heap H [] := by rw [hH0]; exact va_S.rf
  have hP : va_P g.1 CLS [(x0, .inr (8, [.ref t0, .ref u0, .ref k0])), (t0, .inr (6, [.ref th, .ref ts, .ref tg, .ref td, .int 0, .ref tr, .int (-1), .int 0, .int 0, .int 0, .long 0, .int 0, .int 0])), (ts, .inr (5, [.ref th, .ref tw, .int 0]))] H := by rw [hH0]; exact hP
  rw [← hH0]
  have hl := lv_entry ([.ref x0, .int n1]) (n := 2) (Nat.le_of_ble_eq_true rfl)
  rw [lg_entry_eq]
  generalize (lg_sl ([.ref x0, .int n1]) ++ List.replicate (2 - (lg_sl ([.ref x0, .int n1])).length) Slot.unset).toArray = ls at hl ⊢
  have hl : lv_has ls 2 [(0, .ref x0), (1, .int n1)] := hl
  refine lv_aload_n hx hb dX7_isLive_0 rfl (lv_at hl 0 rfl) ?_
  refine va_get (D := g.1) (ci := 8) (v := .ref t0) (C := RX7) (T := TX7) (N := 3) hx hb htg inG_X7 hown hK hP 0 rfl rfl 0 (by decide) (htg _ k310) (fun _ h9 => h9) rfl dX7_isLive_1 ?_
  refine va_get (D := g.1) (ci := 6) (v := .ref ts) (C := RX5) (T := TX5) (N := 13) hx hb htg inG_X5 hown hK hP 1 rfl rfl 1 (by decide) (htg _ k250) (fun _ h9 => h9) rfl dX7_isLive_4 ?_
  refine lv_iload_n hx hb dX7_isLive_7 rfl (lv_at hl 1 rfl) ?_
  have hPc := hP.sub (ws' := [(ts, .inr (5, [.ref th, .ref tw, .int 0]))]) [2] rfl
  have hDc := hD.sub (ws' := [(ts, .inr (5, [.ref th, .ref tw, .int 0]))]) [2] (by decide) rfl
  have hFc := va_free (wc := [(ts, .inr (5, [.ref th, .ref tw, .int 0]))]) hD hS hA [2] rfl
  refine q_ci (wr := [(x0, .inr (8, [.ref t0, .ref u0, .ref k0])), (t0, .inr (6, [.ref th, .ref ts, .ref tg, .ref td, .int 0, .ref tr, .int (-1), .int 0, .int 0, .int 0, .long 0, .int 0, .int 0]))]) (va_runV (As := [.int n1]) (rest := []) ⟨hx, hb, hml, hown, htg⟩ (c_X4_isSource l hfl g ts th tw n1  H.size) ⟨(qB htg k609 k52 k1102 ok_X4_isSource rfl rfl ⟨Nat.le_of_ble_eq_true rfl, Nat.le_of_ble_eq_true rfl⟩), htg _ k607, htg _ k608⟩ ⟨(q_pre [.ref ts, .int n1] hPc hDc hK hS hT hFc).1, va_recv hK hP (ci := 5) (q0 := 2) rfl rfl, (q_pre [.ref ts, .int n1] hPc hDc hK hS hT hFc).2⟩ rfl rfl hl.1 rfl (lv_room (Nat.le_of_ble_eq_true rfl)) dX7_isLive_8 ⟨Nat.le_of_ble_eq_true rfl, Nat.le_of_ble_eq_true rfl⟩) hP hD hS hFc [2] [0, 1] rfl rfl (by decide) (by decide) (fun r9 u9 H locs hw hP hD hS => ?_)
  try dsimp only at hw
  rcases hw with ⟨rfl, rfl⟩
  have hP : va_P g.1 CLS [(x0, .inr (8, [.ref t0, .ref u0, .ref k0])), (t0, .inr (6, [.ref th, .ref ts, .ref tg, .ref td, .int 0, .ref tr, .int (-1), .int 0, .int 0, .int 0, .long 0, .int 0, .int 0])), (ts, .inr (5, [.ref th, .ref tw, .int 0]))] H := hP
  have hD : va_D A [(x0, .inr (8, [.ref t0, .ref u0, .ref k0])), (t0, .inr (6, [.ref th, .ref ts, .ref tg, .ref td, .int 0, .ref tr, .int (-1), .int 0, .int 0, .int 0, .long 0, .int 0, .int 0])), (ts, .inr (5, [.ref th, .ref tw, .int 0]))] := hD
  refine W.widen (k := 0) (n := 0) (Nat.le_of_ble_eq_true rfl) (Nat.le_of_ble_eq_true rfl) ?_
  refine lv_if_ne (tgt := 24) hx hb dX7_isLive_11 (by decide) (fun c_1 => absurd (by decide) c_1) (fun c_1 => ?_)
  exact vx_throwS (own := "HeroTable") (cls := "java/lang/IndexOutOfBoundsException") (names := ["java/lang/RuntimeException", "java/lang/Exception"]) hx hb hfl hown rfl (by decide) (htg _ k829) (htg _ k67) (hT.2.1 _ (List.mem_of_getElem? (i := 13) rfl)) (hat_X7_117 htg hT.1) hgd_X7_117 hT.2.2.1.1 hT.2.2.1.2 hS (hl.1.trans hml.symm) dX7_isLive_14 dX7_isLive_17 dX7_isLive_18 dX7_isLive_20 dX7_isLive_23 (hnoX _) (Nat.lt_of_succ_le (Nat.le_of_ble_eq_true rfl)) (Nat.le_of_ble_eq_true rfl) (Nat.le_of_ble_eq_true rfl) (Nat.le_of_ble_eq_true rfl) B.notSynchronized (fun t ht h1 h2 => ⟨"java/lang/IndexOutOfBoundsException", rfl, rfl, q_frameX hS h1 h2⟩) hS.2.2 (Nat.le_of_ble_eq_true rfl) (Nat.le_of_ble_eq_true rfl)

set_option maxHeartbeats 4000000 in
set_option maxRecDepth 100000 in
theorem c_X7_sources (l : Launch) (hfl : l.stackTraces = false) (g : GP) (x0 : Nat) (t0 : Nat) (th : Nat) (ts : Nat) (tg : Nat) (td : Nat) (tr : Nat) (u0 : Nat) (k0 : Nat) (tw : Nat)  : CI l yX7_sources (wG yX7_sources cX7_sources 1 (Option.some Jvm.ClassFile.FieldType.int)) (LV 6 0 0) g [.ref x0] ([(x0, .inr (8, [.ref t0, .ref u0, .ref k0])), (t0, .inr (6, [.ref th, .ref ts, .ref tg, .ref td, .int 0, .ref tr, .int (-1), .int 0, .int 0, .int 0, .long 0, .int 0, .int 0])), (ts, .inr (5, [.ref th, .ref tw, .int 0]))]) (fun (r : Int32) (u : va_W) => r = 0 ∧ u = []) := by
  intro sz
  refine Met.ofW (cc := cX7_sources) (maxL := 1) (ret := (Option.some Jvm.ClassFile.FieldType.int)) (by decide) rfl ?_
  intro p e s m args below meth c s₁ B hml hv
  obtain ⟨rfl, hsz, hP, hK, hD0, hT0⟩ := hv
  have hx := B.exec
  have hb := B.bytes
  have hr := B.returns
  have hts := atoms_spec (ws := (wG yX7_sources cX7_sources 1 (Option.some Jvm.ClassFile.FieldType.int))) B.pre
  have htg : ∀ w ∈ G9, w.before _ s = true := fun w h => hts w (List.mem_cons_of_mem _ h)
  have hown : s.vm.findClass "HeroTable" = some m.cls := findClass_of_methodNamed B.named
  have hlocks := B.notSynchronized
  subst hsz
  have hD := hD0.self (sz := s.heap.size)
  have hT := hT0
  clear hT0
  generalize hAe : va_A [(x0, .inr (8, [.ref t0, .ref u0, .ref k0])), (t0, .inr (6, [.ref th, .ref ts, .ref tg, .ref td, .int 0, .ref tr, .int (-1), .int 0, .int 0, .int 0, .long 0, .int 0, .int 0])), (ts, .inr (5, [.ref th, .ref tw, .int 0]))] s.heap.size = A at hD hT ⊢
  have hA : ∀ q : Nat, s.heap.size ≤ q → A q := fun q h => by rw [← hAe]; exact Or.inr h
  obtain ⟨H, hH0⟩ : ∃ H, H = s.heap := ⟨_, rfl⟩
  have hS : va_S A s.heap H [] := by rw [hH0]; exact va_S.rf
  have hP : va_P g.1 CLS [(x0, .inr (8, [.ref t0, .ref u0, .ref k0])), (t0, .inr (6, [.ref th, .ref ts, .ref tg, .ref td, .int 0, .ref tr, .int (-1), .int 0, .int 0, .int 0, .long 0, .int 0, .int 0])), (ts, .inr (5, [.ref th, .ref tw, .int 0]))] H := by rw [hH0]; exact hP
  rw [← hH0]
  have hl := lv_entry ([.ref x0]) (n := 1) (Nat.le_of_ble_eq_true rfl)
  rw [lg_entry_eq]
  generalize (lg_sl ([.ref x0]) ++ List.replicate (1 - (lg_sl ([.ref x0])).length) Slot.unset).toArray = ls at hl ⊢
  have hl : lv_has ls 1 [(0, .ref x0)] := hl
  refine lv_aload_n hx hb dX7_sources_0 rfl (lv_at hl 0 rfl) ?_
  refine va_get (D := g.1) (ci := 8) (v := .ref t0) (C := RX7) (T := TX7) (N := 3) hx hb htg inG_X7 hown hK hP 0 rfl rfl 0 (by decide) (htg _ k310) (fun _ h9 => h9) rfl dX7_sources_1 ?_
  refine va_get (D := g.1) (ci := 6) (v := .ref ts) (C := RX5) (T := TX5) (N := 13) hx hb htg inG_X5 hown hK hP 1 rfl rfl 1 (by decide) (htg _ k250) (fun _ h9 => h9) rfl dX7_sources_4 ?_
  refine va_get (D := g.1) (ci := 5) (v := .int 0) (C := RX4) (T := TX4) (N := 3) hx hb htg inG_X4 hown hK hP 2 rfl rfl 2 (by decide) (htg _ k120) (fun _ h9 => h9) rfl dX7_sources_7 ?_
  have hP9 := hP.sub (ws' := []) [] rfl
  have hD9 := hD.sub (ws' := []) [] (by decide) rfl
  refine W.widen (k := 0) (n := 0) (Nat.le_of_ble_eq_true rfl) (Nat.le_of_ble_eq_true rfl) ?_
  exact W.iret (v := 0) hx hb hr (fun t ht hW => ⟨⟨0, [], rfl, ⟨rfl, rfl⟩, by rw [ht]; exact hP9, va_K.moved hW.alike hK, hD9⟩, hS.F ht⟩) hS.2.2 dX7_sources_10

set_option maxHeartbeats 4000000 in
set_option maxRecDepth 100000 in
theorem c_X7_dice (l : Launch) (hfl : l.stackTraces = false) (g : GP) (x0 : Nat) (t0 : Nat) (th : Nat) (ts : Nat) (tg : Nat) (td : Nat) (tr : Nat) (u0 : Nat) (k0 : Nat) (tv : Nat)  : CI l yX7_dice (wG yX7_dice cX7_dice 1 (Option.some Jvm.ClassFile.FieldType.int)) (LV 6 0 0) g [.ref x0] ([(x0, .inr (8, [.ref t0, .ref u0, .ref k0])), (t0, .inr (6, [.ref th, .ref ts, .ref tg, .ref td, .int 0, .ref tr, .int (-1), .int 0, .int 0, .int 0, .long 0, .int 0, .int 0])), (td, .inr (2, [.ref tv, .int 0, .int 0]))]) (fun (r : Int32) (u : va_W) => r = 0 ∧ u = []) := by
  intro sz
  refine Met.ofW (cc := cX7_dice) (maxL := 1) (ret := (Option.some Jvm.ClassFile.FieldType.int)) (by decide) rfl ?_
  intro p e s m args below meth c s₁ B hml hv
  obtain ⟨rfl, hsz, hP, hK, hD0, hT0⟩ := hv
  have hx := B.exec
  have hb := B.bytes
  have hr := B.returns
  have hts := atoms_spec (ws := (wG yX7_dice cX7_dice 1 (Option.some Jvm.ClassFile.FieldType.int))) B.pre
  have htg : ∀ w ∈ G9, w.before _ s = true := fun w h => hts w (List.mem_cons_of_mem _ h)
  have hown : s.vm.findClass "HeroTable" = some m.cls := findClass_of_methodNamed B.named
  have hlocks := B.notSynchronized
  subst hsz
  have hD := hD0.self (sz := s.heap.size)
  have hT := hT0
  clear hT0
  generalize hAe : va_A [(x0, .inr (8, [.ref t0, .ref u0, .ref k0])), (t0, .inr (6, [.ref th, .ref ts, .ref tg, .ref td, .int 0, .ref tr, .int (-1), .int 0, .int 0, .int 0, .long 0, .int 0, .int 0])), (td, .inr (2, [.ref tv, .int 0, .int 0]))] s.heap.size = A at hD hT ⊢
  have hA : ∀ q : Nat, s.heap.size ≤ q → A q := fun q h => by rw [← hAe]; exact Or.inr h
  obtain ⟨H, hH0⟩ : ∃ H, H = s.heap := ⟨_, rfl⟩
  have hS : va_S A s.heap H [] := by rw [hH0]; exact va_S.rf
  have hP : va_P g.1 CLS [(x0, .inr (8, [.ref t0, .ref u0, .ref k0])), (t0, .inr (6, [.ref th, .ref ts, .ref tg, .ref td, .int 0, .ref tr, .int (-1), .int 0, .int 0, .int 0, .long 0, .int 0, .int 0])), (td, .inr (2, [.ref tv, .int 0, .int 0]))] H := by rw [hH0]; exact hP
  rw [← hH0]
  have hl := lv_entry ([.ref x0]) (n := 1) (Nat.le_of_ble_eq_true rfl)
  rw [lg_entry_eq]
  generalize (lg_sl ([.ref x0]) ++ List.replicate (1 - (lg_sl ([.ref x0])).length) Slot.unset).toArray = ls at hl ⊢
  have hl : lv_has ls 1 [(0, .ref x0)] := hl
  refine lv_aload_n hx hb dX7_dice_0 rfl (lv_at hl 0 rfl) ?_
  refine va_get (D := g.1) (ci := 8) (v := .ref t0) (C := RX7) (T := TX7) (N := 3) hx hb htg inG_X7 hown hK hP 0 rfl rfl 0 (by decide) (htg _ k310) (fun _ h9 => h9) rfl dX7_dice_1 ?_
  refine va_get (D := g.1) (ci := 6) (v := .ref td) (C := RX5) (T := TX5) (N := 13) hx hb htg inG_X5 hown hK hP 1 rfl rfl 3 (by decide) (htg _ k253) (fun _ h9 => h9) rfl dX7_dice_4 ?_
  have hPc := hP.sub (ws' := [(td, .inr (2, [.ref tv, .int 0, .int 0]))]) [2] rfl
  have hDc := hD.sub (ws' := [(td, .inr (2, [.ref tv, .int 0, .int 0]))]) [2] (by decide) rfl
  have hFc := va_free (wc := [(td, .inr (2, [.ref tv, .int 0, .int 0]))]) hD hS hA [2] rfl
  refine q_ci (wr := [(x0, .inr (8, [.ref t0, .ref u0, .ref k0])), (t0, .inr (6, [.ref th, .ref ts, .ref tg, .ref td, .int 0, .ref tr, .int (-1), .int 0, .int 0, .int 0, .long 0, .int 0, .int 0]))]) (va_runV (As := []) (rest := []) ⟨hx, hb, hml, hown, htg⟩ (c_X0_left l hfl g td tv 0  H.size) ⟨(qB htg k331 k54 k328 ok_X0_left rfl rfl ⟨Nat.le_of_ble_eq_true rfl, Nat.le_of_ble_eq_true rfl⟩), htg _ k329, htg _ k330⟩ ⟨(q_pre [.ref td] hPc hDc hK hS hT hFc).1, va_recv hK hP (ci := 2) (q0 := 2) rfl rfl, (q_pre [.ref td] hPc hDc hK hS hT hFc).2⟩ rfl rfl hl.1 rfl (lv_room (Nat.le_of_ble_eq_true rfl)) dX7_dice_7 ⟨Nat.le_of_ble_eq_true rfl, Nat.le_of_ble_eq_true rfl⟩) hP hD hS hFc [2] [0, 1] rfl rfl (by decide) (by decide) (fun r9 u9 H locs hw hP hD hS => ?_)
  try dsimp only at hw
  rcases hw with ⟨rfl, rfl⟩
  have hP : va_P g.1 CLS [(x0, .inr (8, [.ref t0, .ref u0, .ref k0])), (t0, .inr (6, [.ref th, .ref ts, .ref tg, .ref td, .int 0, .ref tr, .int (-1), .int 0, .int 0, .int 0, .long 0, .int 0, .int 0])), (td, .inr (2, [.ref tv, .int 0, .int 0]))] H := hP
  have hD : va_D A [(x0, .inr (8, [.ref t0, .ref u0, .ref k0])), (t0, .inr (6, [.ref th, .ref ts, .ref tg, .ref td, .int 0, .ref tr, .int (-1), .int 0, .int 0, .int 0, .long 0, .int 0, .int 0])), (td, .inr (2, [.ref tv, .int 0, .int 0]))] := hD
  refine W.widen (k := 0) (n := 0) (Nat.le_of_ble_eq_true rfl) (Nat.le_of_ble_eq_true rfl) ?_
  have hP9 := hP.sub (ws' := []) [] rfl
  have hD9 := hD.sub (ws' := []) [] (by decide) rfl
  refine W.widen (k := 0) (n := 0) (Nat.le_of_ble_eq_true rfl) (Nat.le_of_ble_eq_true rfl) ?_
  exact W.iret (v := 0) hx hb hr (fun t ht hW => ⟨⟨0, [], rfl, ⟨rfl, rfl⟩, by rw [ht]; exact hP9, va_K.moved hW.alike hK, hD9⟩, hS.F ht⟩) hS.2.2 dX7_dice_10

set_option maxHeartbeats 4000000 in
set_option maxRecDepth 100000 in
theorem c_X7_round (l : Launch) (hfl : l.stackTraces = false) (g : GP) (x0 : Nat) (t0 : Nat) (th : Nat) (ts : Nat) (tg : Nat) (td : Nat) (tr : Nat) (u0 : Nat) (k0 : Nat)  : CI l yX7_round (wG yX7_round cX7_round 1 (Option.some Jvm.ClassFile.FieldType.int)) (LV 6 0 0) g [.ref x0] ([(x0, .inr (8, [.ref t0, .ref u0, .ref k0])), (t0, .inr (6, [.ref th, .ref ts, .ref tg, .ref td, .int 0, .ref tr, .int (-1), .int 0, .int 0, .int 0, .long 0, .int 0, .int 0]))]) (fun (r : Int32) (u : va_W) => r = 0 ∧ u = []) := by
  intro sz
  refine Met.ofW (cc := cX7_round) (maxL := 1) (ret := (Option.some Jvm.ClassFile.FieldType.int)) (by decide) rfl ?_
  intro p e s m args below meth c s₁ B hml hv
  obtain ⟨rfl, hsz, hP, hK, hD0, hT0⟩ := hv
  have hx := B.exec
  have hb := B.bytes
  have hr := B.returns
  have hts := atoms_spec (ws := (wG yX7_round cX7_round 1 (Option.some Jvm.ClassFile.FieldType.int))) B.pre
  have htg : ∀ w ∈ G9, w.before _ s = true := fun w h => hts w (List.mem_cons_of_mem _ h)
  have hown : s.vm.findClass "HeroTable" = some m.cls := findClass_of_methodNamed B.named
  have hlocks := B.notSynchronized
  subst hsz
  have hD := hD0.self (sz := s.heap.size)
  have hT := hT0
  clear hT0
  generalize hAe : va_A [(x0, .inr (8, [.ref t0, .ref u0, .ref k0])), (t0, .inr (6, [.ref th, .ref ts, .ref tg, .ref td, .int 0, .ref tr, .int (-1), .int 0, .int 0, .int 0, .long 0, .int 0, .int 0]))] s.heap.size = A at hD hT ⊢
  have hA : ∀ q : Nat, s.heap.size ≤ q → A q := fun q h => by rw [← hAe]; exact Or.inr h
  obtain ⟨H, hH0⟩ : ∃ H, H = s.heap := ⟨_, rfl⟩
  have hS : va_S A s.heap H [] := by rw [hH0]; exact va_S.rf
  have hP : va_P g.1 CLS [(x0, .inr (8, [.ref t0, .ref u0, .ref k0])), (t0, .inr (6, [.ref th, .ref ts, .ref tg, .ref td, .int 0, .ref tr, .int (-1), .int 0, .int 0, .int 0, .long 0, .int 0, .int 0]))] H := by rw [hH0]; exact hP
  rw [← hH0]
  have hl := lv_entry ([.ref x0]) (n := 1) (Nat.le_of_ble_eq_true rfl)
  rw [lg_entry_eq]
  generalize (lg_sl ([.ref x0]) ++ List.replicate (1 - (lg_sl ([.ref x0])).length) Slot.unset).toArray = ls at hl ⊢
  have hl : lv_has ls 1 [(0, .ref x0)] := hl
  refine lv_aload_n hx hb dX7_round_0 rfl (lv_at hl 0 rfl) ?_
  refine va_get (D := g.1) (ci := 8) (v := .ref t0) (C := RX7) (T := TX7) (N := 3) hx hb htg inG_X7 hown hK hP 0 rfl rfl 0 (by decide) (htg _ k310) (fun _ h9 => h9) rfl dX7_round_1 ?_
  refine va_get (D := g.1) (ci := 6) (v := .int 0) (C := RX5) (T := TX5) (N := 13) hx hb htg inG_X5 hown hK hP 1 rfl rfl 7 (by decide) (htg _ k259) (fun _ h9 => h9) rfl dX7_round_4 ?_
  have hP9 := hP.sub (ws' := []) [] rfl
  have hD9 := hD.sub (ws' := []) [] (by decide) rfl
  refine W.widen (k := 0) (n := 0) (Nat.le_of_ble_eq_true rfl) (Nat.le_of_ble_eq_true rfl) ?_
  exact W.iret (v := 0) hx hb hr (fun t ht hW => ⟨⟨0, [], rfl, ⟨rfl, rfl⟩, by rw [ht]; exact hP9, va_K.moved hW.alike hK, hD9⟩, hS.F ht⟩) hS.2.2 dX7_round_7

set_option maxHeartbeats 4000000 in
set_option maxRecDepth 100000 in
theorem c_X7_kept (l : Launch) (hfl : l.stackTraces = false) (g : GP) (x0 : Nat) (t0 : Nat) (th : Nat) (ts : Nat) (tg : Nat) (td : Nat) (tr : Nat) (u0 : Nat) (k0 : Nat) (kr : Nat)  : CI l yX7_kept (wG yX7_kept cX7_kept 1 (Option.some Jvm.ClassFile.FieldType.int)) (LV 6 0 0) g [.ref x0] ([(x0, .inr (8, [.ref t0, .ref u0, .ref k0])), (k0, .inr (7, [.ref kr, .int 0]))]) (fun (r : Int32) (u : va_W) => r = 0 ∧ u = []) := by
  intro sz
  refine Met.ofW (cc := cX7_kept) (maxL := 1) (ret := (Option.some Jvm.ClassFile.FieldType.int)) (by decide) rfl ?_
  intro p e s m args below meth c s₁ B hml hv
  obtain ⟨rfl, hsz, hP, hK, hD0, hT0⟩ := hv
  have hx := B.exec
  have hb := B.bytes
  have hr := B.returns
  have hts := atoms_spec (ws := (wG yX7_kept cX7_kept 1 (Option.some Jvm.ClassFile.FieldType.int))) B.pre
  have htg : ∀ w ∈ G9, w.before _ s = true := fun w h => hts w (List.mem_cons_of_mem _ h)
  have hown : s.vm.findClass "HeroTable" = some m.cls := findClass_of_methodNamed B.named
  have hlocks := B.notSynchronized
  subst hsz
  have hD := hD0.self (sz := s.heap.size)
  have hT := hT0
  clear hT0
  generalize hAe : va_A [(x0, .inr (8, [.ref t0, .ref u0, .ref k0])), (k0, .inr (7, [.ref kr, .int 0]))] s.heap.size = A at hD hT ⊢
  have hA : ∀ q : Nat, s.heap.size ≤ q → A q := fun q h => by rw [← hAe]; exact Or.inr h
  obtain ⟨H, hH0⟩ : ∃ H, H = s.heap := ⟨_, rfl⟩
  have hS : va_S A s.heap H [] := by rw [hH0]; exact va_S.rf
  have hP : va_P g.1 CLS [(x0, .inr (8, [.ref t0, .ref u0, .ref k0])), (k0, .inr (7, [.ref kr, .int 0]))] H := by rw [hH0]; exact hP
  rw [← hH0]
  have hl := lv_entry ([.ref x0]) (n := 1) (Nat.le_of_ble_eq_true rfl)
  rw [lg_entry_eq]
  generalize (lg_sl ([.ref x0]) ++ List.replicate (1 - (lg_sl ([.ref x0])).length) Slot.unset).toArray = ls at hl ⊢
  have hl : lv_has ls 1 [(0, .ref x0)] := hl
  refine lv_aload_n hx hb dX7_kept_0 rfl (lv_at hl 0 rfl) ?_
  refine va_get (D := g.1) (ci := 8) (v := .ref k0) (C := RX7) (T := TX7) (N := 3) hx hb htg inG_X7 hown hK hP 0 rfl rfl 2 (by decide) (htg _ k312) (fun _ h9 => h9) rfl dX7_kept_1 ?_
  refine va_get (D := g.1) (ci := 7) (v := .int 0) (C := RX6) (T := TX6) (N := 2) hx hb htg inG_X6 hown hK hP 1 rfl rfl 1 (by decide) (htg _ k304) (fun _ h9 => h9) rfl dX7_kept_4 ?_
  have hP9 := hP.sub (ws' := []) [] rfl
  have hD9 := hD.sub (ws' := []) [] (by decide) rfl
  refine W.widen (k := 0) (n := 0) (Nat.le_of_ble_eq_true rfl) (Nat.le_of_ble_eq_true rfl) ?_
  exact W.iret (v := 0) hx hb hr (fun t ht hW => ⟨⟨0, [], rfl, ⟨rfl, rfl⟩, by rw [ht]; exact hP9, va_K.moved hW.alike hK, hD9⟩, hS.F ht⟩) hS.2.2 dX7_kept_7

set_option maxHeartbeats 4000000 in
set_option maxRecDepth 100000 in
theorem c_X7_harmDone (l : Launch) (hfl : l.stackTraces = false) (g : GP) (x0 : Nat) (t0 : Nat) (th : Nat) (ts : Nat) (tg : Nat) (td : Nat) (tr : Nat) (u0 : Nat) (k0 : Nat)  : CL l yX7_harmDone (wG yX7_harmDone cX7_harmDone 1 (Option.some Jvm.ClassFile.FieldType.long)) (LV 6 0 0) g [.ref x0] ([(x0, .inr (8, [.ref t0, .ref u0, .ref k0])), (t0, .inr (6, [.ref th, .ref ts, .ref tg, .ref td, .int 0, .ref tr, .int (-1), .int 0, .int 0, .int 0, .long 0, .int 0, .int 0]))]) (fun (r : Int64) (u : va_W) => r = 0 ∧ u = []) := by
  intro sz
  refine Met.ofW (cc := cX7_harmDone) (maxL := 1) (ret := (Option.some Jvm.ClassFile.FieldType.long)) (by decide) rfl ?_
  intro p e s m args below meth c s₁ B hml hv
  obtain ⟨rfl, hsz, hP, hK, hD0, hT0⟩ := hv
  have hx := B.exec
  have hb := B.bytes
  have hr := B.returns
  have hts := atoms_spec (ws := (wG yX7_harmDone cX7_harmDone 1 (Option.some Jvm.ClassFile.FieldType.long))) B.pre
  have htg : ∀ w ∈ G9, w.before _ s = true := fun w h => hts w (List.mem_cons_of_mem _ h)
  have hown : s.vm.findClass "HeroTable" = some m.cls := findClass_of_methodNamed B.named
  have hlocks := B.notSynchronized
  subst hsz
  have hD := hD0.self (sz := s.heap.size)
  have hT := hT0
  clear hT0
  generalize hAe : va_A [(x0, .inr (8, [.ref t0, .ref u0, .ref k0])), (t0, .inr (6, [.ref th, .ref ts, .ref tg, .ref td, .int 0, .ref tr, .int (-1), .int 0, .int 0, .int 0, .long 0, .int 0, .int 0]))] s.heap.size = A at hD hT ⊢
  have hA : ∀ q : Nat, s.heap.size ≤ q → A q := fun q h => by rw [← hAe]; exact Or.inr h
  obtain ⟨H, hH0⟩ : ∃ H, H = s.heap := ⟨_, rfl⟩
  have hS : va_S A s.heap H [] := by rw [hH0]; exact va_S.rf
  have hP : va_P g.1 CLS [(x0, .inr (8, [.ref t0, .ref u0, .ref k0])), (t0, .inr (6, [.ref th, .ref ts, .ref tg, .ref td, .int 0, .ref tr, .int (-1), .int 0, .int 0, .int 0, .long 0, .int 0, .int 0]))] H := by rw [hH0]; exact hP
  rw [← hH0]
  have hl := lv_entry ([.ref x0]) (n := 1) (Nat.le_of_ble_eq_true rfl)
  rw [lg_entry_eq]
  generalize (lg_sl ([.ref x0]) ++ List.replicate (1 - (lg_sl ([.ref x0])).length) Slot.unset).toArray = ls at hl ⊢
  have hl : lv_has ls 1 [(0, .ref x0)] := hl
  refine lv_aload_n hx hb dX7_harmDone_0 rfl (lv_at hl 0 rfl) ?_
  refine va_get (D := g.1) (ci := 8) (v := .ref t0) (C := RX7) (T := TX7) (N := 3) hx hb htg inG_X7 hown hK hP 0 rfl rfl 0 (by decide) (htg _ k310) (fun _ h9 => h9) rfl dX7_harmDone_1 ?_
  refine va_get (D := g.1) (ci := 6) (v := .long 0) (C := RX5) (T := TX5) (N := 13) hx hb htg inG_X5 hown hK hP 1 rfl rfl 10 (by decide) (htg _ k264) (fun _ h9 => h9) rfl dX7_harmDone_4 ?_
  have hP9 := hP.sub (ws' := []) [] rfl
  have hD9 := hD.sub (ws' := []) [] (by decide) rfl
  refine W.widen (k := 0) (n := 0) (Nat.le_of_ble_eq_true rfl) (Nat.le_of_ble_eq_true rfl) ?_
  exact W.lret (v := 0) hx hb hr (fun t ht hW => ⟨⟨0, [], rfl, ⟨rfl, rfl⟩, by rw [ht]; exact hP9, va_K.moved hW.alike hK, hD9⟩, hS.F ht⟩) hS.2.2 dX7_harmDone_7

set_option maxHeartbeats 4000000 in
set_option maxRecDepth 100000 in
theorem c_X7_tellDie (l : Launch) (hfl : l.stackTraces = false) (g : GP) (x0 : Nat) (t0 : Nat) (th : Nat) (ts : Nat) (tg : Nat) (td : Nat) (tr : Nat) (u0 : Nat) (k0 : Nat) (tv : Nat) (fv : Nat → Int32) (kr : Nat) (fk : Nat → Int32) (n1 : Int32)  : XI l yX7_tellDie (wG yX7_tellDie cX7_tellDie 3 (Option.some Jvm.ClassFile.FieldType.int)) (LV 6 1 6) g [.ref x0, .int n1] ([(x0, .inr (8, [.ref t0, .ref u0, .ref k0])), (t0, .inr (6, [.ref th, .ref ts, .ref tg, .ref td, .int 0, .ref tr, .int (-1), .int 0, .int 0, .int 0, .long 0, .int 0, .int 0])), (td, .inr (2, [.ref tv, .int 0, .int 0])), (tv, .inl (g.2.1 1, 16, .inl fv)), (k0, .inr (7, [.ref kr, .int 0])), (kr, .inl (g.2.1 1, 128, .inl fk))]) (fun (r : Int32) (u : va_W) => (okDie n1) ∧ r = 1 ∧ u = []) (fun E : String => (E = "java/lang/IllegalArgumentException" ∧ (¬ okDie n1))) := by
  intro sz
  refine vx_ofW (cc := cX7_tellDie) (maxL := 3) (ret := (Option.some Jvm.ClassFile.FieldType.int)) (by decide) rfl ?_
  intro p e s m args below meth c s₁ B hml hno hv
  have hnoX : ∀ (k : Nat), ∀ x ∈ c.exceptionTable.toList, covers x k = false := fun k x h => (hno x h).elim
  obtain ⟨rfl, hsz, hP, hK, hD0, hT0⟩ := hv
  have hx := B.exec
  have hb := B.bytes
  have hr := B.returns
  have hts := atoms_spec (ws := (wG yX7_tellDie cX7_tellDie 3 (Option.some Jvm.ClassFile.FieldType.int))) B.pre
  have htg : ∀ w ∈ G9, w.before _ s = true := fun w h => hts w (List.mem_cons_of_mem _ h)
  have hown : s.vm.findClass "HeroTable" = some m.cls := findClass_of_methodNamed B.named
  have hlocks := B.notSynchronized
  subst hsz
  have hD := hD0.self (sz := s.heap.size)
  have hT := hT0
  clear hT0
  generalize hAe : va_A [(x0, .inr (8, [.ref t0, .ref u0, .ref k0])), (t0, .inr (6, [.ref th, .ref ts, .ref tg, .ref td, .int 0, .ref tr, .int (-1), .int 0, .int 0, .int 0, .long 0, .int 0, .int 0])), (td, .inr (2, [.ref tv, .int 0, .int 0])), (tv, .inl (g.2.1 1, 16, .inl fv)), (k0, .inr (7, [.ref kr, .int 0])), (kr, .inl (g.2.1 1, 128, .inl fk))] s.heap.size = A at hD hT ⊢
  have hA : ∀ q : Nat, s.heap.size ≤ q → A q := fun q h => by rw [← hAe]; exact Or.inr h
  obtain ⟨H, hH0⟩ : ∃ H, H = s.heap := ⟨_, rfl⟩
  have hS : va_S A s.heap H [] := by rw [hH0]; exact va_S.rf
  have hP : va_P g.1 CLS [(x0, .inr (8, [.ref t0, .ref u0, .ref k0])), (t0, .inr (6, [.ref th, .ref ts, .ref tg, .ref td, .int 0, .ref tr, .int (-1), .int 0, .int 0, .int 0, .long 0, .int 0, .int 0])), (td, .inr (2, [.ref tv, .int 0, .int 0])), (tv, .inl (g.2.1 1, 16, .inl fv)), (k0, .inr (7, [.ref kr, .int 0])), (kr, .inl (g.2.1 1, 128, .inl fk))] H := by rw [hH0]; exact hP
  rw [← hH0]
  have hl := lv_entry ([.ref x0, .int n1]) (n := 3) (Nat.le_of_ble_eq_true rfl)
  rw [lg_entry_eq]
  generalize (lg_sl ([.ref x0, .int n1]) ++ List.replicate (3 - (lg_sl ([.ref x0, .int n1])).length) Slot.unset).toArray = ls at hl ⊢
  have hl : lv_has ls 3 [(0, .ref x0), (1, .int n1)] := hl
  refine lv_aload_n hx hb dX7_tellDie_0 rfl (lv_at hl 0 rfl) ?_
  refine va_get (D := g.1) (ci := 8) (v := .ref t0) (C := RX7) (T := TX7) (N := 3) hx hb htg inG_X7 hown hK hP 0 rfl rfl 0 (by decide) (htg _ k310) (fun _ h9 => h9) rfl dX7_tellDie_1 ?_
  refine lv_iload_n hx hb dX7_tellDie_4 rfl (lv_at hl 1 rfl) ?_
  have hPc := hP.sub (ws' := [(t0, .inr (6, [.ref th, .ref ts, .ref tg, .ref td, .int 0, .ref tr, .int (-1), .int 0, .int 0, .int 0, .long 0, .int 0, .int 0])), (td, .inr (2, [.ref tv, .int 0, .int 0])), (tv, .inl (g.2.1 1, 16, .inl fv))]) [1, 2, 3] rfl
  have hDc := hD.sub (ws' := [(t0, .inr (6, [.ref th, .ref ts, .ref tg, .ref td, .int 0, .ref tr, .int (-1), .int 0, .int 0, .int 0, .long 0, .int 0, .int 0])), (td, .inr (2, [.ref tv, .int 0, .int 0])), (tv, .inl (g.2.1 1, 16, .inl fv))]) [1, 2, 3] (by decide) rfl
  have hFc := va_free (wc := [(t0, .inr (6, [.ref th, .ref ts, .ref tg, .ref td, .int 0, .ref tr, .int (-1), .int 0, .int 0, .int 0, .long 0, .int 0, .int 0])), (td, .inr (2, [.ref tv, .int 0, .int 0])), (tv, .inl (g.2.1 1, 16, .inl fv))]) hD hS hA [1, 2, 3] rfl
  refine q_ci (wr := [(x0, .inr (8, [.ref t0, .ref u0, .ref k0])), (k0, .inr (7, [.ref kr, .int 0])), (kr, .inl (g.2.1 1, 128, .inl fk))]) (va_runV (As := [.int n1]) (rest := []) ⟨hx, hb, hml, hown, htg⟩ (c_X5_hearDie l hfl g t0 th ts tg td tr tv fv n1  H.size) ⟨(qB htg k618 k51 k1143 ok_X5_hearDie rfl rfl ⟨Nat.le_of_ble_eq_true rfl, Nat.le_of_ble_eq_true rfl⟩), htg _ k616, htg _ k617⟩ ⟨(q_pre [.ref t0, .int n1] hPc hDc hK hS hT hFc).1, va_recv hK hP (ci := 6) (q0 := 1) rfl rfl, (q_pre [.ref t0, .int n1] hPc hDc hK hS hT hFc).2⟩ rfl rfl hl.1 rfl (lv_room (Nat.le_of_ble_eq_true rfl)) dX7_tellDie_5 ⟨Nat.le_of_ble_eq_true rfl, Nat.le_of_ble_eq_true rfl⟩) hP hD hS hFc [1, 2, 3] [0, 4, 5] rfl rfl (by decide) (by decide) (fun r9 u9 H locs hw hP hD hS => ?_)
  try dsimp only at hw
  rcases hw with ⟨c_1, rfl, rfl⟩ | ⟨c_2, rfl, rfl⟩
  · have hP : va_P g.1 CLS [(x0, .inr (8, [.ref t0, .ref u0, .ref k0])), (k0, .inr (7, [.ref kr, .int 0])), (kr, .inl (g.2.1 1, 128, .inl fk)), (t0, .inr (6, [.ref th, .ref ts, .ref tg, .ref td, .int 0, .ref tr, .int (-1), .int 0, .int 0, .int 0, .long 0, .int 0, .int 0])), (td, .inr (2, [.ref tv, .int 1, .int 0]))] H := hP
    have hD : va_D A [(x0, .inr (8, [.ref t0, .ref u0, .ref k0])), (k0, .inr (7, [.ref kr, .int 0])), (kr, .inl (g.2.1 1, 128, .inl fk)), (t0, .inr (6, [.ref th, .ref ts, .ref tg, .ref td, .int 0, .ref tr, .int (-1), .int 0, .int 0, .int 0, .long 0, .int 0, .int 0])), (td, .inr (2, [.ref tv, .int 1, .int 0]))] := hD
    refine W.widen (k := 0) (n := 0) (Nat.le_of_ble_eq_true rfl) (Nat.le_of_ble_eq_true rfl) ?_
    have hPc := hP.sub (ws' := []) [] rfl
    have hDc := hD.sub (ws' := []) [] (by decide) rfl
    have hFc := va_free (wc := []) hD hS hA [] rfl
    refine q_ci (wr := [(x0, .inr (8, [.ref t0, .ref u0, .ref k0])), (k0, .inr (7, [.ref kr, .int 0])), (kr, .inl (g.2.1 1, 128, .inl fk)), (t0, .inr (6, [.ref th, .ref ts, .ref tg, .ref td, .int 0, .ref tr, .int (-1), .int 0, .int 0, .int 0, .long 0, .int 0, .int 0])), (td, .inr (2, [.ref tv, .int 1, .int 0]))]) (va_runS (As := [.int 1]) (rest := []) ⟨hx, hb, hml, hown, htg⟩ (c_ans_val l hfl g 1 (by decide) (by decide) (by decide) (by decide) (by decide) H.size) ⟨(qB htg k827 k50 k825 ok_X7_answered rfl rfl ⟨Nat.le_of_ble_eq_true rfl, Nat.le_of_ble_eq_true rfl⟩), htg _ k826⟩ (q_pre [.int 1] hPc hDc hK hS hT hFc) rfl rfl hl.1 rfl (lv_room (Nat.le_of_ble_eq_true rfl)) dX7_tellDie_8 ⟨Nat.le_of_ble_eq_true rfl, Nat.le_of_ble_eq_true rfl⟩) hP hD hS hFc [] [0, 1, 2, 3, 4] rfl rfl (by decide) (by decide) (fun r9 u9 H locs hw hP hD hS => ?_)
    try dsimp only at hw
    rcases hw with ⟨rfl, rfl⟩
    have hP : va_P g.1 CLS [(x0, .inr (8, [.ref t0, .ref u0, .ref k0])), (k0, .inr (7, [.ref kr, .int 0])), (kr, .inl (g.2.1 1, 128, .inl fk)), (t0, .inr (6, [.ref th, .ref ts, .ref tg, .ref td, .int 0, .ref tr, .int (-1), .int 0, .int 0, .int 0, .long 0, .int 0, .int 0])), (td, .inr (2, [.ref tv, .int 1, .int 0]))] H := hP
    have hD : va_D A [(x0, .inr (8, [.ref t0, .ref u0, .ref k0])), (k0, .inr (7, [.ref kr, .int 0])), (kr, .inl (g.2.1 1, 128, .inl fk)), (t0, .inr (6, [.ref th, .ref ts, .ref tg, .ref td, .int 0, .ref tr, .int (-1), .int 0, .int 0, .int 0, .long 0, .int 0, .int 0])), (td, .inr (2, [.ref tv, .int 1, .int 0]))] := hD
    refine W.widen (k := 0) (n := 0) (Nat.le_of_ble_eq_true rfl) (Nat.le_of_ble_eq_true rfl) ?_
    refine lv_istore_n (lv' := [(2, .int 1), (0, .ref x0), (1, .int n1)]) hx hb dX7_tellDie_11 rfl hl (by decide) rfl (fun ls hl => ?_)
    refine lv_aload_n hx hb dX7_tellDie_12 rfl (lv_at hl 1 rfl) ?_
    refine va_get (D := g.1) (ci := 8) (v := .ref k0) (C := RX7) (T := TX7) (N := 3) hx hb htg inG_X7 hown hK hP 0 rfl rfl 2 (by decide) (htg _ k312) (fun _ h9 => h9) rfl dX7_tellDie_13 ?_
    refine lv_bipush (v := 9) hx hb dX7_tellDie_16 (by decide) ?_
    refine lv_iload_n hx hb dX7_tellDie_18 rfl (lv_at hl 2 rfl) ?_
    refine lv_iconst (v := 0) hx hb dX7_tellDie_19 (by decide) ?_
    refine lv_iconst (v := 0) hx hb dX7_tellDie_20 (by decide) ?_
    refine lv_iconst (v := 0) hx hb dX7_tellDie_21 (by decide) ?_
    refine lv_iconst (v := 0) hx hb dX7_tellDie_22 (by decide) ?_
    refine lv_iconst (v := 0) hx hb dX7_tellDie_23 (by decide) ?_
    have hPc := hP.sub (ws' := [(k0, .inr (7, [.ref kr, .int 0])), (kr, .inl (g.2.1 1, 128, .inl fk))]) [1, 2] rfl
    have hDc := hD.sub (ws' := [(k0, .inr (7, [.ref kr, .int 0])), (kr, .inl (g.2.1 1, 128, .inl fk))]) [1, 2] (by decide) rfl
    have hFc := va_free (wc := [(k0, .inr (7, [.ref kr, .int 0])), (kr, .inl (g.2.1 1, 128, .inl fk))]) hD hS hA [1, 2] rfl
    refine q_cv (wr := [(x0, .inr (8, [.ref t0, .ref u0, .ref k0])), (t0, .inr (6, [.ref th, .ref ts, .ref tg, .ref td, .int 0, .ref tr, .int (-1), .int 0, .int 0, .int 0, .long 0, .int 0, .int 0])), (td, .inr (2, [.ref tv, .int 1, .int 0]))]) (va_runV (As := [.int 9, .int n1, .int 0, .int 0, .int 0, .int 0, .int 0]) (rest := []) ⟨hx, hb, hml, hown, htg⟩ (c_X6_keep l hfl g k0 kr fk 9 n1 0 0 0 0 0  H.size) ⟨(qB htg k971 k56 k968 ok_X6_keep rfl rfl ⟨Nat.le_of_ble_eq_true rfl, Nat.le_of_ble_eq_true rfl⟩), htg _ k969, htg _ k970⟩ ⟨(q_pre [.ref k0, .int 9, .int n1, .int 0, .int 0, .int 0, .int 0, .int 0] hPc hDc hK hS hT hFc).1, va_recv hK hP (ci := 7) (q0 := 1) rfl rfl, (q_pre [.ref k0, .int 9, .int n1, .int 0, .int 0, .int 0, .int 0, .int 0] hPc hDc hK hS hT hFc).2⟩ rfl rfl hl.1 rfl (lv_room (Nat.le_of_ble_eq_true rfl)) dX7_tellDie_24 ⟨Nat.le_of_ble_eq_true rfl, Nat.le_of_ble_eq_true rfl⟩) hP hD hS hFc [1, 2] [0, 3, 4] rfl rfl (by decide) (by decide) (fun u9 H locs hw hP hD hS => ?_)
    try dsimp only at hw
    rcases hw with ⟨f_3, rfl⟩
    have hP : va_P g.1 CLS [(x0, .inr (8, [.ref t0, .ref u0, .ref k0])), (t0, .inr (6, [.ref th, .ref ts, .ref tg, .ref td, .int 0, .ref tr, .int (-1), .int 0, .int 0, .int 0, .long 0, .int 0, .int 0])), (td, .inr (2, [.ref tv, .int 1, .int 0])), (k0, .inr (7, [.ref kr, .int 1])), (kr, .inl (g.2.1 1, 128, .inl f_3))] H := hP
    have hD : va_D A [(x0, .inr (8, [.ref t0, .ref u0, .ref k0])), (t0, .inr (6, [.ref th, .ref ts, .ref tg, .ref td, .int 0, .ref tr, .int (-1), .int 0, .int 0, .int 0, .long 0, .int 0, .int 0])), (td, .inr (2, [.ref tv, .int 1, .int 0])), (k0, .inr (7, [.ref kr, .int 1])), (kr, .inl (g.2.1 1, 128, .inl f_3))] := hD
    refine W.widen (k := 0) (n := 0) (Nat.le_of_ble_eq_true rfl) (Nat.le_of_ble_eq_true rfl) ?_
    refine lv_iload_n hx hb dX7_tellDie_27 rfl (lv_at hl 0 rfl) ?_
    have hP9 := hP.sub (ws' := []) [] rfl
    have hD9 := hD.sub (ws' := []) [] (by decide) rfl
    refine W.widen (k := 1) (n := 6) (Nat.le_of_ble_eq_true rfl) (Nat.le_of_ble_eq_true rfl) ?_
    refine vx_ret ?_
    exact W.iret (v := 1) hx hb hr (fun t ht hW => ⟨⟨1, [], rfl, ⟨by assumption, rfl, rfl⟩, by rw [ht]; exact hP9, va_K.moved hW.alike hK, hD9⟩, hS.F ht⟩) hS.2.2 dX7_tellDie_28
  · have hP : va_P g.1 CLS [(x0, .inr (8, [.ref t0, .ref u0, .ref k0])), (k0, .inr (7, [.ref kr, .int 0])), (kr, .inl (g.2.1 1, 128, .inl fk)), (t0, .inr (6, [.ref th, .ref ts, .ref tg, .ref td, .int 0, .ref tr, .int (-1), .int 0, .int 0, .int 0, .long 0, .int 0, .int 0]))] H := hP
    have hD : va_D A [(x0, .inr (8, [.ref t0, .ref u0, .ref k0])), (k0, .inr (7, [.ref kr, .int 0])), (kr, .inl (g.2.1 1, 128, .inl fk)), (t0, .inr (6, [.ref th, .ref ts, .ref tg, .ref td, .int 0, .ref tr, .int (-1), .int 0, .int 0, .int 0, .long 0, .int 0, .int 0]))] := hD
    refine W.widen (k := 0) (n := 0) (Nat.le_of_ble_eq_true rfl) (Nat.le_of_ble_eq_true rfl) ?_
    have hPc := hP.sub (ws' := []) [] rfl
    have hDc := hD.sub (ws' := []) [] (by decide) rfl
    have hFc := va_free (wc := []) hD hS hA [] rfl
    refine q_xi (wr := [(x0, .inr (8, [.ref t0, .ref u0, .ref k0])), (k0, .inr (7, [.ref kr, .int 0])), (kr, .inl (g.2.1 1, 128, .inl fk)), (t0, .inr (6, [.ref th, .ref ts, .ref tg, .ref td, .int 0, .ref tr, .int (-1), .int 0, .int 0, .int 0, .long 0, .int 0, .int 0]))]) (vx_runS (As := [.int (-1000002)]) (rest := []) ⟨hx, hb, hml, hown, htg⟩ (c_ans_1000002 l hfl g   H.size) ⟨(qB htg k827 k50 k825 ok_X7_answered rfl rfl ⟨Nat.le_of_ble_eq_true rfl, Nat.le_of_ble_eq_true rfl⟩), htg _ k826⟩ (q_pre [.int (-1000002)] hPc hDc hK hS hT hFc) rfl rfl hl.1 rfl (lv_room (Nat.le_of_ble_eq_true rfl)) dX7_tellDie_8 ⟨Nat.le_of_ble_eq_true rfl, Nat.le_of_ble_eq_true rfl⟩) hP hD hS hFc [] [0, 1, 2, 3] rfl rfl (by decide) (by decide) (fun E9 ce9 q9 H locs hpx hP hD hS hq1 hq2 hq3 => ?_) (fun r9 u9 H locs hw hP hD hS => ?_)
    · exact vx_out (hnoX _) B.notSynchronized hq1 hq2 hq3 (fun t ht hv => ⟨E9, ⟨hpx, c_2⟩, rfl, hS.F ht⟩) hS.2.2 (Nat.le_of_ble_eq_true rfl) (Nat.le_of_ble_eq_true rfl)
    · exact hw.elim

set_option maxHeartbeats 4000000 in
set_option maxRecDepth 100000 in
theorem c_X7_begin (l : Launch) (hfl : l.stackTraces = false) (g : GP) (x0 : Nat) (t0 : Nat) (th : Nat) (ts : Nat) (tg : Nat) (td : Nat) (tr : Nat) (u0 : Nat) (k0 : Nat)  : XI l yX7_begin (wG yX7_begin cX7_begin 2 (Option.some Jvm.ClassFile.FieldType.int)) (LV 6 1 6) g [.ref x0] ([(x0, .inr (8, [.ref t0, .ref u0, .ref k0])), (t0, .inr (6, [.ref th, .ref ts, .ref tg, .ref td, .int 0, .ref tr, .int (-1), .int 0, .int 0, .int 0, .long 0, .int 0, .int 0]))]) (fun (r : Int32) (u : va_W) => False) (fun E : String => (E = "java/util/NoSuchElementException")) := by
  intro sz
  refine vx_ofW (cc := cX7_begin) (maxL := 2) (ret := (Option.some Jvm.ClassFile.FieldType.int)) (by decide) rfl ?_
  intro p e s m args below meth c s₁ B hml hno hv
  have hnoX : ∀ (k : Nat), ∀ x ∈ c.exceptionTable.toList, covers x k = false := fun k x h => (hno x h).elim
  obtain ⟨rfl, hsz, hP, hK, hD0, hT0⟩ := hv
  have hx := B.exec
  have hb := B.bytes
  have hr := B.returns
  have hts := atoms_spec (ws := (wG yX7_begin cX7_begin 2 (Option.some Jvm.ClassFile.FieldType.int))) B.pre
  have htg : ∀ w ∈ G9, w.before _ s = true := fun w h => hts w (List.mem_cons_of_mem _ h)
  have hown : s.vm.findClass "HeroTable" = some m.cls := findClass_of_methodNamed B.named
  have hlocks := B.notSynchronized
  subst hsz
  have hD := hD0.self (sz := s.heap.size)
  have hT := hT0
  clear hT0
  generalize hAe : va_A [(x0, .inr (8, [.ref t0, .ref u0, .ref k0])), (t0, .inr (6, [.ref th, .ref ts, .ref tg, .ref td, .int 0, .ref tr, .int (-1), .int 0, .int 0, .int 0, .long 0, .int 0, .int 0]))] s.heap.size = A at hD hT ⊢
  have hA : ∀ q : Nat, s.heap.size ≤ q → A q := fun q h => by rw [← hAe]; exact Or.inr h
  obtain ⟨H, hH0⟩ : ∃ H, H = s.heap := ⟨_, rfl⟩
  have hS : va_S A s.heap H [] := by rw [hH0]; exact va_S.rf
  have hP : va_P g.1 CLS [(x0, .inr (8, [.ref t0, .ref u0, .ref k0])), (t0, .inr (6, [.ref th, .ref ts, .ref tg, .ref td, .int 0, .ref tr, .int (-1), .int 0, .int 0, .int 0, .long 0, .int 0, .int 0]))] H := by rw [hH0]; exact hP
  rw [← hH0]
  have hl := lv_entry ([.ref x0]) (n := 2) (Nat.le_of_ble_eq_true rfl)
  rw [lg_entry_eq]
  generalize (lg_sl ([.ref x0]) ++ List.replicate (2 - (lg_sl ([.ref x0])).length) Slot.unset).toArray = ls at hl ⊢
  have hl : lv_has ls 2 [(0, .ref x0)] := hl
  refine lv_aload_n hx hb dX7_begin_0 rfl (lv_at hl 0 rfl) ?_
  refine va_get (D := g.1) (ci := 8) (v := .ref t0) (C := RX7) (T := TX7) (N := 3) hx hb htg inG_X7 hown hK hP 0 rfl rfl 0 (by decide) (htg _ k310) (fun _ h9 => h9) rfl dX7_begin_1 ?_
  have hPc := hP.sub (ws' := [(t0, .inr (6, [.ref th, .ref ts, .ref tg, .ref td, .int 0, .ref tr, .int (-1), .int 0, .int 0, .int 0, .long 0, .int 0, .int 0]))]) [1] rfl
  have hDc := hD.sub (ws' := [(t0, .inr (6, [.ref th, .ref ts, .ref tg, .ref td, .int 0, .ref tr, .int (-1), .int 0, .int 0, .int 0, .long 0, .int 0, .int 0]))]) [1] (by decide) rfl
  have hFc := va_free (wc := [(t0, .inr (6, [.ref th, .ref ts, .ref tg, .ref td, .int 0, .ref tr, .int (-1), .int 0, .int 0, .int 0, .long 0, .int 0, .int 0]))]) hD hS hA [1] rfl
  refine q_ci (wr := [(x0, .inr (8, [.ref t0, .ref u0, .ref k0]))]) (va_runV (As := []) (rest := []) ⟨hx, hb, hml, hown, htg⟩ (c_X5_startFight l hfl g t0 th ts tg td tr  H.size) ⟨(qB htg k639 k51 k1152 ok_X5_startFight rfl rfl ⟨Nat.le_of_ble_eq_true rfl, Nat.le_of_ble_eq_true rfl⟩), htg _ k637, htg _ k638⟩ ⟨(q_pre [.ref t0] hPc hDc hK hS hT hFc).1, va_recv hK hP (ci := 6) (q0 := 1) rfl rfl, (q_pre [.ref t0] hPc hDc hK hS hT hFc).2⟩ rfl rfl hl.1 rfl (lv_room (Nat.le_of_ble_eq_true rfl)) dX7_begin_4 ⟨Nat.le_of_ble_eq_true rfl, Nat.le_of_ble_eq_true rfl⟩) hP hD hS hFc [1] [0] rfl rfl (by decide) (by decide) (fun r9 u9 H locs hw hP hD hS => ?_)
  try dsimp only at hw
  rcases hw with ⟨rfl, rfl⟩
  have hP : va_P g.1 CLS [(x0, .inr (8, [.ref t0, .ref u0, .ref k0])), (t0, .inr (6, [.ref th, .ref ts, .ref tg, .ref td, .int 0, .ref tr, .int (-1), .int 0, .int 0, .int 0, .long 0, .int 0, .int 0]))] H := hP
  have hD : va_D A [(x0, .inr (8, [.ref t0, .ref u0, .ref k0])), (t0, .inr (6, [.ref th, .ref ts, .ref tg, .ref td, .int 0, .ref tr, .int (-1), .int 0, .int 0, .int 0, .long 0, .int 0, .int 0]))] := hD
  refine W.widen (k := 0) (n := 0) (Nat.le_of_ble_eq_true rfl) (Nat.le_of_ble_eq_true rfl) ?_
  have hPc := hP.sub (ws' := []) [] rfl
  have hDc := hD.sub (ws' := []) [] (by decide) rfl
  have hFc := va_free (wc := []) hD hS hA [] rfl
  refine q_xi (wr := [(x0, .inr (8, [.ref t0, .ref u0, .ref k0])), (t0, .inr (6, [.ref th, .ref ts, .ref tg, .ref td, .int 0, .ref tr, .int (-1), .int 0, .int 0, .int 0, .long 0, .int 0, .int 0]))]) (vx_runS (As := [.int (-1000005)]) (rest := []) ⟨hx, hb, hml, hown, htg⟩ (c_ans_1000005 l hfl g   H.size) ⟨(qB htg k827 k50 k825 ok_X7_answered rfl rfl ⟨Nat.le_of_ble_eq_true rfl, Nat.le_of_ble_eq_true rfl⟩), htg _ k826⟩ (q_pre [.int (-1000005)] hPc hDc hK hS hT hFc) rfl rfl hl.1 rfl (lv_room (Nat.le_of_ble_eq_true rfl)) dX7_begin_7 ⟨Nat.le_of_ble_eq_true rfl, Nat.le_of_ble_eq_true rfl⟩) hP hD hS hFc [] [0, 1] rfl rfl (by decide) (by decide) (fun E9 ce9 q9 H locs hpx hP hD hS hq1 hq2 hq3 => ?_) (fun r9 u9 H locs hw hP hD hS => ?_)
  · exact vx_out (hnoX _) B.notSynchronized hq1 hq2 hq3 (fun t ht hv => ⟨E9, hpx, rfl, hS.F ht⟩) hS.2.2 (Nat.le_of_ble_eq_true rfl) (Nat.le_of_ble_eq_true rfl)
  · exact hw.elim

set_option maxHeartbeats 4000000 in
set_option maxRecDepth 100000 in
theorem c_X7_endTurn (l : Launch) (hfl : l.stackTraces = false) (g : GP) (x0 : Nat) (t0 : Nat) (th : Nat) (ts : Nat) (tg : Nat) (td : Nat) (tr : Nat) (u0 : Nat) (k0 : Nat)  : XI l yX7_endTurn (wG yX7_endTurn cX7_endTurn 2 (Option.some Jvm.ClassFile.FieldType.int)) (LV 6 1 6) g [.ref x0] ([(x0, .inr (8, [.ref t0, .ref u0, .ref k0])), (t0, .inr (6, [.ref th, .ref ts, .ref tg, .ref td, .int 0, .ref tr, .int (-1), .int 0, .int 0, .int 0, .long 0, .int 0, .int 0]))]) (fun (r : Int32) (u : va_W) => False) (fun E : String => (E = "java/lang/IllegalStateException")) := by
  intro sz
  refine vx_ofW (cc := cX7_endTurn) (maxL := 2) (ret := (Option.some Jvm.ClassFile.FieldType.int)) (by decide) rfl ?_
  intro p e s m args below meth c s₁ B hml hno hv
  have hnoX : ∀ (k : Nat), ∀ x ∈ c.exceptionTable.toList, covers x k = false := fun k x h => (hno x h).elim
  obtain ⟨rfl, hsz, hP, hK, hD0, hT0⟩ := hv
  have hx := B.exec
  have hb := B.bytes
  have hr := B.returns
  have hts := atoms_spec (ws := (wG yX7_endTurn cX7_endTurn 2 (Option.some Jvm.ClassFile.FieldType.int))) B.pre
  have htg : ∀ w ∈ G9, w.before _ s = true := fun w h => hts w (List.mem_cons_of_mem _ h)
  have hown : s.vm.findClass "HeroTable" = some m.cls := findClass_of_methodNamed B.named
  have hlocks := B.notSynchronized
  subst hsz
  have hD := hD0.self (sz := s.heap.size)
  have hT := hT0
  clear hT0
  generalize hAe : va_A [(x0, .inr (8, [.ref t0, .ref u0, .ref k0])), (t0, .inr (6, [.ref th, .ref ts, .ref tg, .ref td, .int 0, .ref tr, .int (-1), .int 0, .int 0, .int 0, .long 0, .int 0, .int 0]))] s.heap.size = A at hD hT ⊢
  have hA : ∀ q : Nat, s.heap.size ≤ q → A q := fun q h => by rw [← hAe]; exact Or.inr h
  obtain ⟨H, hH0⟩ : ∃ H, H = s.heap := ⟨_, rfl⟩
  have hS : va_S A s.heap H [] := by rw [hH0]; exact va_S.rf
  have hP : va_P g.1 CLS [(x0, .inr (8, [.ref t0, .ref u0, .ref k0])), (t0, .inr (6, [.ref th, .ref ts, .ref tg, .ref td, .int 0, .ref tr, .int (-1), .int 0, .int 0, .int 0, .long 0, .int 0, .int 0]))] H := by rw [hH0]; exact hP
  rw [← hH0]
  have hl := lv_entry ([.ref x0]) (n := 2) (Nat.le_of_ble_eq_true rfl)
  rw [lg_entry_eq]
  generalize (lg_sl ([.ref x0]) ++ List.replicate (2 - (lg_sl ([.ref x0])).length) Slot.unset).toArray = ls at hl ⊢
  have hl : lv_has ls 2 [(0, .ref x0)] := hl
  refine lv_aload_n hx hb dX7_endTurn_0 rfl (lv_at hl 0 rfl) ?_
  refine va_get (D := g.1) (ci := 8) (v := .ref t0) (C := RX7) (T := TX7) (N := 3) hx hb htg inG_X7 hown hK hP 0 rfl rfl 0 (by decide) (htg _ k310) (fun _ h9 => h9) rfl dX7_endTurn_1 ?_
  have hPc := hP.sub (ws' := [(t0, .inr (6, [.ref th, .ref ts, .ref tg, .ref td, .int 0, .ref tr, .int (-1), .int 0, .int 0, .int 0, .long 0, .int 0, .int 0]))]) [1] rfl
  have hDc := hD.sub (ws' := [(t0, .inr (6, [.ref th, .ref ts, .ref tg, .ref td, .int 0, .ref tr, .int (-1), .int 0, .int 0, .int 0, .long 0, .int 0, .int 0]))]) [1] (by decide) rfl
  have hFc := va_free (wc := [(t0, .inr (6, [.ref th, .ref ts, .ref tg, .ref td, .int 0, .ref tr, .int (-1), .int 0, .int 0, .int 0, .long 0, .int 0, .int 0]))]) hD hS hA [1] rfl
  refine q_ci (wr := [(x0, .inr (8, [.ref t0, .ref u0, .ref k0]))]) (va_runV (As := []) (rest := []) ⟨hx, hb, hml, hown, htg⟩ (c_X5_passTurn l hfl g t0 th ts tg td tr  H.size) ⟨(qB htg k657 k51 k1160 ok_X5_passTurn rfl rfl ⟨Nat.le_of_ble_eq_true rfl, Nat.le_of_ble_eq_true rfl⟩), htg _ k655, htg _ k656⟩ ⟨(q_pre [.ref t0] hPc hDc hK hS hT hFc).1, va_recv hK hP (ci := 6) (q0 := 1) rfl rfl, (q_pre [.ref t0] hPc hDc hK hS hT hFc).2⟩ rfl rfl hl.1 rfl (lv_room (Nat.le_of_ble_eq_true rfl)) dX7_endTurn_4 ⟨Nat.le_of_ble_eq_true rfl, Nat.le_of_ble_eq_true rfl⟩) hP hD hS hFc [1] [0] rfl rfl (by decide) (by decide) (fun r9 u9 H locs hw hP hD hS => ?_)
  try dsimp only at hw
  rcases hw with ⟨rfl, rfl⟩
  have hP : va_P g.1 CLS [(x0, .inr (8, [.ref t0, .ref u0, .ref k0])), (t0, .inr (6, [.ref th, .ref ts, .ref tg, .ref td, .int 0, .ref tr, .int (-1), .int 0, .int 0, .int 0, .long 0, .int 0, .int 0]))] H := hP
  have hD : va_D A [(x0, .inr (8, [.ref t0, .ref u0, .ref k0])), (t0, .inr (6, [.ref th, .ref ts, .ref tg, .ref td, .int 0, .ref tr, .int (-1), .int 0, .int 0, .int 0, .long 0, .int 0, .int 0]))] := hD
  refine W.widen (k := 0) (n := 0) (Nat.le_of_ble_eq_true rfl) (Nat.le_of_ble_eq_true rfl) ?_
  have hPc := hP.sub (ws' := []) [] rfl
  have hDc := hD.sub (ws' := []) [] (by decide) rfl
  have hFc := va_free (wc := []) hD hS hA [] rfl
  refine q_xi (wr := [(x0, .inr (8, [.ref t0, .ref u0, .ref k0])), (t0, .inr (6, [.ref th, .ref ts, .ref tg, .ref td, .int 0, .ref tr, .int (-1), .int 0, .int 0, .int 0, .long 0, .int 0, .int 0]))]) (vx_runS (As := [.int (-1000003)]) (rest := []) ⟨hx, hb, hml, hown, htg⟩ (c_ans_1000003 l hfl g   H.size) ⟨(qB htg k827 k50 k825 ok_X7_answered rfl rfl ⟨Nat.le_of_ble_eq_true rfl, Nat.le_of_ble_eq_true rfl⟩), htg _ k826⟩ (q_pre [.int (-1000003)] hPc hDc hK hS hT hFc) rfl rfl hl.1 rfl (lv_room (Nat.le_of_ble_eq_true rfl)) dX7_endTurn_7 ⟨Nat.le_of_ble_eq_true rfl, Nat.le_of_ble_eq_true rfl⟩) hP hD hS hFc [] [0, 1] rfl rfl (by decide) (by decide) (fun E9 ce9 q9 H locs hpx hP hD hS hq1 hq2 hq3 => ?_) (fun r9 u9 H locs hw hP hD hS => ?_)
  · exact vx_out (hnoX _) B.notSynchronized hq1 hq2 hq3 (fun t ht hv => ⟨E9, hpx, rfl, hS.F ht⟩) hS.2.2 (Nat.le_of_ble_eq_true rfl) (Nat.le_of_ble_eq_true rfl)
  · exact hw.elim

set_option maxHeartbeats 4000000 in
set_option maxRecDepth 100000 in
theorem c_X7_rest (l : Launch) (hfl : l.stackTraces = false) (g : GP) (x0 : Nat) (t0 : Nat) (th : Nat) (ts : Nat) (tg : Nat) (td : Nat) (tr : Nat) (u0 : Nat) (k0 : Nat)  : XI l yX7_rest (wG yX7_rest cX7_rest 2 (Option.some Jvm.ClassFile.FieldType.int)) (LV 6 1 6) g [.ref x0] ([(x0, .inr (8, [.ref t0, .ref u0, .ref k0])), (t0, .inr (6, [.ref th, .ref ts, .ref tg, .ref td, .int 0, .ref tr, .int (-1), .int 0, .int 0, .int 0, .long 0, .int 0, .int 0]))]) (fun (r : Int32) (u : va_W) => False) (fun E : String => (E = "java/lang/IllegalStateException")) := by
  intro sz
  refine vx_ofW (cc := cX7_rest) (maxL := 2) (ret := (Option.some Jvm.ClassFile.FieldType.int)) (by decide) rfl ?_
  intro p e s m args below meth c s₁ B hml hno hv
  have hnoX : ∀ (k : Nat), ∀ x ∈ c.exceptionTable.toList, covers x k = false := fun k x h => (hno x h).elim
  obtain ⟨rfl, hsz, hP, hK, hD0, hT0⟩ := hv
  have hx := B.exec
  have hb := B.bytes
  have hr := B.returns
  have hts := atoms_spec (ws := (wG yX7_rest cX7_rest 2 (Option.some Jvm.ClassFile.FieldType.int))) B.pre
  have htg : ∀ w ∈ G9, w.before _ s = true := fun w h => hts w (List.mem_cons_of_mem _ h)
  have hown : s.vm.findClass "HeroTable" = some m.cls := findClass_of_methodNamed B.named
  have hlocks := B.notSynchronized
  subst hsz
  have hD := hD0.self (sz := s.heap.size)
  have hT := hT0
  clear hT0
  generalize hAe : va_A [(x0, .inr (8, [.ref t0, .ref u0, .ref k0])), (t0, .inr (6, [.ref th, .ref ts, .ref tg, .ref td, .int 0, .ref tr, .int (-1), .int 0, .int 0, .int 0, .long 0, .int 0, .int 0]))] s.heap.size = A at hD hT ⊢
  have hA : ∀ q : Nat, s.heap.size ≤ q → A q := fun q h => by rw [← hAe]; exact Or.inr h
  obtain ⟨H, hH0⟩ : ∃ H, H = s.heap := ⟨_, rfl⟩
  have hS : va_S A s.heap H [] := by rw [hH0]; exact va_S.rf
  have hP : va_P g.1 CLS [(x0, .inr (8, [.ref t0, .ref u0, .ref k0])), (t0, .inr (6, [.ref th, .ref ts, .ref tg, .ref td, .int 0, .ref tr, .int (-1), .int 0, .int 0, .int 0, .long 0, .int 0, .int 0]))] H := by rw [hH0]; exact hP
  rw [← hH0]
  have hl := lv_entry ([.ref x0]) (n := 2) (Nat.le_of_ble_eq_true rfl)
  rw [lg_entry_eq]
  generalize (lg_sl ([.ref x0]) ++ List.replicate (2 - (lg_sl ([.ref x0])).length) Slot.unset).toArray = ls at hl ⊢
  have hl : lv_has ls 2 [(0, .ref x0)] := hl
  refine lv_aload_n hx hb dX7_rest_0 rfl (lv_at hl 0 rfl) ?_
  refine va_get (D := g.1) (ci := 8) (v := .ref t0) (C := RX7) (T := TX7) (N := 3) hx hb htg inG_X7 hown hK hP 0 rfl rfl 0 (by decide) (htg _ k310) (fun _ h9 => h9) rfl dX7_rest_1 ?_
  have hPc := hP.sub (ws' := [(t0, .inr (6, [.ref th, .ref ts, .ref tg, .ref td, .int 0, .ref tr, .int (-1), .int 0, .int 0, .int 0, .long 0, .int 0, .int 0]))]) [1] rfl
  have hDc := hD.sub (ws' := [(t0, .inr (6, [.ref th, .ref ts, .ref tg, .ref td, .int 0, .ref tr, .int (-1), .int 0, .int 0, .int 0, .long 0, .int 0, .int 0]))]) [1] (by decide) rfl
  have hFc := va_free (wc := [(t0, .inr (6, [.ref th, .ref ts, .ref tg, .ref td, .int 0, .ref tr, .int (-1), .int 0, .int 0, .int 0, .long 0, .int 0, .int 0]))]) hD hS hA [1] rfl
  refine q_ci (wr := [(x0, .inr (8, [.ref t0, .ref u0, .ref k0]))]) (va_runV (As := []) (rest := []) ⟨hx, hb, hml, hown, htg⟩ (c_X5_stopFight l hfl g t0 th ts tg td tr  H.size) ⟨(qB htg k682 k51 k1168 ok_X5_stopFight rfl rfl ⟨Nat.le_of_ble_eq_true rfl, Nat.le_of_ble_eq_true rfl⟩), htg _ k680, htg _ k681⟩ ⟨(q_pre [.ref t0] hPc hDc hK hS hT hFc).1, va_recv hK hP (ci := 6) (q0 := 1) rfl rfl, (q_pre [.ref t0] hPc hDc hK hS hT hFc).2⟩ rfl rfl hl.1 rfl (lv_room (Nat.le_of_ble_eq_true rfl)) dX7_rest_4 ⟨Nat.le_of_ble_eq_true rfl, Nat.le_of_ble_eq_true rfl⟩) hP hD hS hFc [1] [0] rfl rfl (by decide) (by decide) (fun r9 u9 H locs hw hP hD hS => ?_)
  try dsimp only at hw
  rcases hw with ⟨rfl, rfl⟩
  have hP : va_P g.1 CLS [(x0, .inr (8, [.ref t0, .ref u0, .ref k0])), (t0, .inr (6, [.ref th, .ref ts, .ref tg, .ref td, .int 0, .ref tr, .int (-1), .int 0, .int 0, .int 0, .long 0, .int 0, .int 0]))] H := hP
  have hD : va_D A [(x0, .inr (8, [.ref t0, .ref u0, .ref k0])), (t0, .inr (6, [.ref th, .ref ts, .ref tg, .ref td, .int 0, .ref tr, .int (-1), .int 0, .int 0, .int 0, .long 0, .int 0, .int 0]))] := hD
  refine W.widen (k := 0) (n := 0) (Nat.le_of_ble_eq_true rfl) (Nat.le_of_ble_eq_true rfl) ?_
  have hPc := hP.sub (ws' := []) [] rfl
  have hDc := hD.sub (ws' := []) [] (by decide) rfl
  have hFc := va_free (wc := []) hD hS hA [] rfl
  refine q_xi (wr := [(x0, .inr (8, [.ref t0, .ref u0, .ref k0])), (t0, .inr (6, [.ref th, .ref ts, .ref tg, .ref td, .int 0, .ref tr, .int (-1), .int 0, .int 0, .int 0, .long 0, .int 0, .int 0]))]) (vx_runS (As := [.int (-1000003)]) (rest := []) ⟨hx, hb, hml, hown, htg⟩ (c_ans_1000003 l hfl g   H.size) ⟨(qB htg k827 k50 k825 ok_X7_answered rfl rfl ⟨Nat.le_of_ble_eq_true rfl, Nat.le_of_ble_eq_true rfl⟩), htg _ k826⟩ (q_pre [.int (-1000003)] hPc hDc hK hS hT hFc) rfl rfl hl.1 rfl (lv_room (Nat.le_of_ble_eq_true rfl)) dX7_rest_7 ⟨Nat.le_of_ble_eq_true rfl, Nat.le_of_ble_eq_true rfl⟩) hP hD hS hFc [] [0, 1] rfl rfl (by decide) (by decide) (fun E9 ce9 q9 H locs hpx hP hD hS hq1 hq2 hq3 => ?_) (fun r9 u9 H locs hw hP hD hS => ?_)
  · exact vx_out (hnoX _) B.notSynchronized hq1 hq2 hq3 (fun t ht hv => ⟨E9, hpx, rfl, hS.F ht⟩) hS.2.2 (Nat.le_of_ble_eq_true rfl) (Nat.le_of_ble_eq_true rfl)
  · exact hw.elim

set_option maxHeartbeats 4000000 in
set_option maxRecDepth 100000 in
theorem c_X7_turn (l : Launch) (hfl : l.stackTraces = false) (g : GP) (x0 : Nat) (t0 : Nat) (th : Nat) (ts : Nat) (tg : Nat) (td : Nat) (tr : Nat) (u0 : Nat) (k0 : Nat)  : XI l yX7_turn (wG yX7_turn cX7_turn 1 (Option.some Jvm.ClassFile.FieldType.int)) (LV 6 1 6) g [.ref x0] ([(x0, .inr (8, [.ref t0, .ref u0, .ref k0])), (t0, .inr (6, [.ref th, .ref ts, .ref tg, .ref td, .int 0, .ref tr, .int (-1), .int 0, .int 0, .int 0, .long 0, .int 0, .int 0]))]) (fun (r : Int32) (u : va_W) => False) (fun E : String => (E = "java/util/NoSuchElementException")) := by
  intro sz
  refine vx_ofW (cc := cX7_turn) (maxL := 1) (ret := (Option.some Jvm.ClassFile.FieldType.int)) (by decide) rfl ?_
  intro p e s m args below meth c s₁ B hml hno hv
  have hnoX : ∀ (k : Nat), ∀ x ∈ c.exceptionTable.toList, covers x k = false := fun k x h => (hno x h).elim
  obtain ⟨rfl, hsz, hP, hK, hD0, hT0⟩ := hv
  have hx := B.exec
  have hb := B.bytes
  have hr := B.returns
  have hts := atoms_spec (ws := (wG yX7_turn cX7_turn 1 (Option.some Jvm.ClassFile.FieldType.int))) B.pre
  have htg : ∀ w ∈ G9, w.before _ s = true := fun w h => hts w (List.mem_cons_of_mem _ h)
  have hown : s.vm.findClass "HeroTable" = some m.cls := findClass_of_methodNamed B.named
  have hlocks := B.notSynchronized
  subst hsz
  have hD := hD0.self (sz := s.heap.size)
  have hT := hT0
  clear hT0
  generalize hAe : va_A [(x0, .inr (8, [.ref t0, .ref u0, .ref k0])), (t0, .inr (6, [.ref th, .ref ts, .ref tg, .ref td, .int 0, .ref tr, .int (-1), .int 0, .int 0, .int 0, .long 0, .int 0, .int 0]))] s.heap.size = A at hD hT ⊢
  have hA : ∀ q : Nat, s.heap.size ≤ q → A q := fun q h => by rw [← hAe]; exact Or.inr h
  obtain ⟨H, hH0⟩ : ∃ H, H = s.heap := ⟨_, rfl⟩
  have hS : va_S A s.heap H [] := by rw [hH0]; exact va_S.rf
  have hP : va_P g.1 CLS [(x0, .inr (8, [.ref t0, .ref u0, .ref k0])), (t0, .inr (6, [.ref th, .ref ts, .ref tg, .ref td, .int 0, .ref tr, .int (-1), .int 0, .int 0, .int 0, .long 0, .int 0, .int 0]))] H := by rw [hH0]; exact hP
  rw [← hH0]
  have hl := lv_entry ([.ref x0]) (n := 1) (Nat.le_of_ble_eq_true rfl)
  rw [lg_entry_eq]
  generalize (lg_sl ([.ref x0]) ++ List.replicate (1 - (lg_sl ([.ref x0])).length) Slot.unset).toArray = ls at hl ⊢
  have hl : lv_has ls 1 [(0, .ref x0)] := hl
  refine lv_aload_n hx hb dX7_turn_0 rfl (lv_at hl 0 rfl) ?_
  refine va_get (D := g.1) (ci := 8) (v := .ref t0) (C := RX7) (T := TX7) (N := 3) hx hb htg inG_X7 hown hK hP 0 rfl rfl 0 (by decide) (htg _ k310) (fun _ h9 => h9) rfl dX7_turn_1 ?_
  have hPc := hP.sub (ws' := [(t0, .inr (6, [.ref th, .ref ts, .ref tg, .ref td, .int 0, .ref tr, .int (-1), .int 0, .int 0, .int 0, .long 0, .int 0, .int 0]))]) [1] rfl
  have hDc := hD.sub (ws' := [(t0, .inr (6, [.ref th, .ref ts, .ref tg, .ref td, .int 0, .ref tr, .int (-1), .int 0, .int 0, .int 0, .long 0, .int 0, .int 0]))]) [1] (by decide) rfl
  have hFc := va_free (wc := [(t0, .inr (6, [.ref th, .ref ts, .ref tg, .ref td, .int 0, .ref tr, .int (-1), .int 0, .int 0, .int 0, .long 0, .int 0, .int 0]))]) hD hS hA [1] rfl
  refine q_ci (wr := [(x0, .inr (8, [.ref t0, .ref u0, .ref k0]))]) (va_runV (As := []) (rest := []) ⟨hx, hb, hml, hown, htg⟩ (c_X5_isTurnOn l hfl g t0 th ts tg td tr  H.size) ⟨(qB htg k400 k51 k1176 ok_X5_isTurnOn rfl rfl ⟨Nat.le_of_ble_eq_true rfl, Nat.le_of_ble_eq_true rfl⟩), htg _ k398, htg _ k399⟩ ⟨(q_pre [.ref t0] hPc hDc hK hS hT hFc).1, va_recv hK hP (ci := 6) (q0 := 1) rfl rfl, (q_pre [.ref t0] hPc hDc hK hS hT hFc).2⟩ rfl rfl hl.1 rfl (lv_room (Nat.le_of_ble_eq_true rfl)) dX7_turn_4 ⟨Nat.le_of_ble_eq_true rfl, Nat.le_of_ble_eq_true rfl⟩) hP hD hS hFc [1] [0] rfl rfl (by decide) (by decide) (fun r9 u9 H locs hw hP hD hS => ?_)
  try dsimp only at hw
  rcases hw with ⟨rfl, rfl⟩
  have hP : va_P g.1 CLS [(x0, .inr (8, [.ref t0, .ref u0, .ref k0])), (t0, .inr (6, [.ref th, .ref ts, .ref tg, .ref td, .int 0, .ref tr, .int (-1), .int 0, .int 0, .int 0, .long 0, .int 0, .int 0]))] H := hP
  have hD : va_D A [(x0, .inr (8, [.ref t0, .ref u0, .ref k0])), (t0, .inr (6, [.ref th, .ref ts, .ref tg, .ref td, .int 0, .ref tr, .int (-1), .int 0, .int 0, .int 0, .long 0, .int 0, .int 0]))] := hD
  refine W.widen (k := 0) (n := 0) (Nat.le_of_ble_eq_true rfl) (Nat.le_of_ble_eq_true rfl) ?_
  refine lv_if_ne (tgt := 20) hx hb dX7_turn_7 (by decide) (fun c_1 => absurd (by decide) c_1) (fun c_1 => ?_)
  exact q_throwN (own := "HeroTable") (cls := "java/util/NoSuchElementException") hx hb hfl rfl hown (htg _ k952) (htg _ k71) (hT.2.1 _ (List.mem_of_getElem? (i := 14) rfl)) (hat_X7_171 htg hT.1) hgd_X7_171 hT.2.2.1.1 hT.2.2.1.2 hS (hl.1.trans hml.symm) dX7_turn_10 dX7_turn_13 dX7_turn_14 dX7_turn_16 dX7_turn_19 (hnoX _) (Nat.lt_of_succ_le (Nat.le_of_ble_eq_true rfl)) (Nat.le_of_ble_eq_true rfl) (Nat.le_of_ble_eq_true rfl) (Nat.le_of_ble_eq_true rfl) B.notSynchronized (fun t ht h1 h2 => ⟨"java/util/NoSuchElementException", rfl, rfl, q_frameX hS h1 h2⟩) hS.2.2 (Nat.le_of_ble_eq_true rfl) (Nat.le_of_ble_eq_true rfl)

set_option maxHeartbeats 4000000 in
set_option maxRecDepth 100000 in
theorem c_X7_steps (l : Launch) (hfl : l.stackTraces = false) (g : GP) (x0 : Nat) (t0 : Nat) (th : Nat) (ts : Nat) (tg : Nat) (td : Nat) (tr : Nat) (u0 : Nat) (k0 : Nat)  : XI l yX7_steps (wG yX7_steps cX7_steps 1 (Option.some Jvm.ClassFile.FieldType.int)) (LV 6 1 6) g [.ref x0] ([(x0, .inr (8, [.ref t0, .ref u0, .ref k0])), (t0, .inr (6, [.ref th, .ref ts, .ref tg, .ref td, .int 0, .ref tr, .int (-1), .int 0, .int 0, .int 0, .long 0, .int 0, .int 0]))]) (fun (r : Int32) (u : va_W) => False) (fun E : String => (E = "java/util/NoSuchElementException")) := by
  intro sz
  refine vx_ofW (cc := cX7_steps) (maxL := 1) (ret := (Option.some Jvm.ClassFile.FieldType.int)) (by decide) rfl ?_
  intro p e s m args below meth c s₁ B hml hno hv
  have hnoX : ∀ (k : Nat), ∀ x ∈ c.exceptionTable.toList, covers x k = false := fun k x h => (hno x h).elim
  obtain ⟨rfl, hsz, hP, hK, hD0, hT0⟩ := hv
  have hx := B.exec
  have hb := B.bytes
  have hr := B.returns
  have hts := atoms_spec (ws := (wG yX7_steps cX7_steps 1 (Option.some Jvm.ClassFile.FieldType.int))) B.pre
  have htg : ∀ w ∈ G9, w.before _ s = true := fun w h => hts w (List.mem_cons_of_mem _ h)
  have hown : s.vm.findClass "HeroTable" = some m.cls := findClass_of_methodNamed B.named
  have hlocks := B.notSynchronized
  subst hsz
  have hD := hD0.self (sz := s.heap.size)
  have hT := hT0
  clear hT0
  generalize hAe : va_A [(x0, .inr (8, [.ref t0, .ref u0, .ref k0])), (t0, .inr (6, [.ref th, .ref ts, .ref tg, .ref td, .int 0, .ref tr, .int (-1), .int 0, .int 0, .int 0, .long 0, .int 0, .int 0]))] s.heap.size = A at hD hT ⊢
  have hA : ∀ q : Nat, s.heap.size ≤ q → A q := fun q h => by rw [← hAe]; exact Or.inr h
  obtain ⟨H, hH0⟩ : ∃ H, H = s.heap := ⟨_, rfl⟩
  have hS : va_S A s.heap H [] := by rw [hH0]; exact va_S.rf
  have hP : va_P g.1 CLS [(x0, .inr (8, [.ref t0, .ref u0, .ref k0])), (t0, .inr (6, [.ref th, .ref ts, .ref tg, .ref td, .int 0, .ref tr, .int (-1), .int 0, .int 0, .int 0, .long 0, .int 0, .int 0]))] H := by rw [hH0]; exact hP
  rw [← hH0]
  have hl := lv_entry ([.ref x0]) (n := 1) (Nat.le_of_ble_eq_true rfl)
  rw [lg_entry_eq]
  generalize (lg_sl ([.ref x0]) ++ List.replicate (1 - (lg_sl ([.ref x0])).length) Slot.unset).toArray = ls at hl ⊢
  have hl : lv_has ls 1 [(0, .ref x0)] := hl
  refine lv_aload_n hx hb dX7_steps_0 rfl (lv_at hl 0 rfl) ?_
  refine va_get (D := g.1) (ci := 8) (v := .ref t0) (C := RX7) (T := TX7) (N := 3) hx hb htg inG_X7 hown hK hP 0 rfl rfl 0 (by decide) (htg _ k310) (fun _ h9 => h9) rfl dX7_steps_1 ?_
  have hPc := hP.sub (ws' := [(t0, .inr (6, [.ref th, .ref ts, .ref tg, .ref td, .int 0, .ref tr, .int (-1), .int 0, .int 0, .int 0, .long 0, .int 0, .int 0]))]) [1] rfl
  have hDc := hD.sub (ws' := [(t0, .inr (6, [.ref th, .ref ts, .ref tg, .ref td, .int 0, .ref tr, .int (-1), .int 0, .int 0, .int 0, .long 0, .int 0, .int 0]))]) [1] (by decide) rfl
  have hFc := va_free (wc := [(t0, .inr (6, [.ref th, .ref ts, .ref tg, .ref td, .int 0, .ref tr, .int (-1), .int 0, .int 0, .int 0, .long 0, .int 0, .int 0]))]) hD hS hA [1] rfl
  refine q_ci (wr := [(x0, .inr (8, [.ref t0, .ref u0, .ref k0]))]) (va_runV (As := []) (rest := []) ⟨hx, hb, hml, hown, htg⟩ (c_X5_isTurnOn l hfl g t0 th ts tg td tr  H.size) ⟨(qB htg k400 k51 k1176 ok_X5_isTurnOn rfl rfl ⟨Nat.le_of_ble_eq_true rfl, Nat.le_of_ble_eq_true rfl⟩), htg _ k398, htg _ k399⟩ ⟨(q_pre [.ref t0] hPc hDc hK hS hT hFc).1, va_recv hK hP (ci := 6) (q0 := 1) rfl rfl, (q_pre [.ref t0] hPc hDc hK hS hT hFc).2⟩ rfl rfl hl.1 rfl (lv_room (Nat.le_of_ble_eq_true rfl)) dX7_steps_4 ⟨Nat.le_of_ble_eq_true rfl, Nat.le_of_ble_eq_true rfl⟩) hP hD hS hFc [1] [0] rfl rfl (by decide) (by decide) (fun r9 u9 H locs hw hP hD hS => ?_)
  try dsimp only at hw
  rcases hw with ⟨rfl, rfl⟩
  have hP : va_P g.1 CLS [(x0, .inr (8, [.ref t0, .ref u0, .ref k0])), (t0, .inr (6, [.ref th, .ref ts, .ref tg, .ref td, .int 0, .ref tr, .int (-1), .int 0, .int 0, .int 0, .long 0, .int 0, .int 0]))] H := hP
  have hD : va_D A [(x0, .inr (8, [.ref t0, .ref u0, .ref k0])), (t0, .inr (6, [.ref th, .ref ts, .ref tg, .ref td, .int 0, .ref tr, .int (-1), .int 0, .int 0, .int 0, .long 0, .int 0, .int 0]))] := hD
  refine W.widen (k := 0) (n := 0) (Nat.le_of_ble_eq_true rfl) (Nat.le_of_ble_eq_true rfl) ?_
  refine lv_if_ne (tgt := 20) hx hb dX7_steps_7 (by decide) (fun c_1 => absurd (by decide) c_1) (fun c_1 => ?_)
  exact q_throwN (own := "HeroTable") (cls := "java/util/NoSuchElementException") hx hb hfl rfl hown (htg _ k952) (htg _ k71) (hT.2.1 _ (List.mem_of_getElem? (i := 14) rfl)) (hat_X7_171 htg hT.1) hgd_X7_171 hT.2.2.1.1 hT.2.2.1.2 hS (hl.1.trans hml.symm) dX7_steps_10 dX7_steps_13 dX7_steps_14 dX7_steps_16 dX7_steps_19 (hnoX _) (Nat.lt_of_succ_le (Nat.le_of_ble_eq_true rfl)) (Nat.le_of_ble_eq_true rfl) (Nat.le_of_ble_eq_true rfl) (Nat.le_of_ble_eq_true rfl) B.notSynchronized (fun t ht h1 h2 => ⟨"java/util/NoSuchElementException", rfl, rfl, q_frameX hS h1 h2⟩) hS.2.2 (Nat.le_of_ble_eq_true rfl) (Nat.le_of_ble_eq_true rfl)

set_option maxHeartbeats 4000000 in
set_option maxRecDepth 100000 in
theorem c_X7_stand (l : Launch) (hfl : l.stackTraces = false) (g : GP) (x0 : Nat) (t0 : Nat) (th : Nat) (ts : Nat) (tg : Nat) (td : Nat) (tr : Nat) (u0 : Nat) (k0 : Nat)  : XI l yX7_stand (wG yX7_stand cX7_stand 2 (Option.some Jvm.ClassFile.FieldType.boolean)) (LV 6 1 6) g [.ref x0] ([(x0, .inr (8, [.ref t0, .ref u0, .ref k0])), (t0, .inr (6, [.ref th, .ref ts, .ref tg, .ref td, .int 0, .ref tr, .int (-1), .int 0, .int 0, .int 0, .long 0, .int 0, .int 0]))]) (fun (r : Int32) (u : va_W) => False) (fun E : String => (E = "java/lang/IllegalStateException")) := by
  intro sz
  refine vx_ofW (cc := cX7_stand) (maxL := 2) (ret := (Option.some Jvm.ClassFile.FieldType.boolean)) (by decide) rfl ?_
  intro p e s m args below meth c s₁ B hml hno hv
  have hnoX : ∀ (k : Nat), ∀ x ∈ c.exceptionTable.toList, covers x k = false := fun k x h => (hno x h).elim
  obtain ⟨rfl, hsz, hP, hK, hD0, hT0⟩ := hv
  have hx := B.exec
  have hb := B.bytes
  have hr := B.returns
  have hts := atoms_spec (ws := (wG yX7_stand cX7_stand 2 (Option.some Jvm.ClassFile.FieldType.boolean))) B.pre
  have htg : ∀ w ∈ G9, w.before _ s = true := fun w h => hts w (List.mem_cons_of_mem _ h)
  have hown : s.vm.findClass "HeroTable" = some m.cls := findClass_of_methodNamed B.named
  have hlocks := B.notSynchronized
  subst hsz
  have hD := hD0.self (sz := s.heap.size)
  have hT := hT0
  clear hT0
  generalize hAe : va_A [(x0, .inr (8, [.ref t0, .ref u0, .ref k0])), (t0, .inr (6, [.ref th, .ref ts, .ref tg, .ref td, .int 0, .ref tr, .int (-1), .int 0, .int 0, .int 0, .long 0, .int 0, .int 0]))] s.heap.size = A at hD hT ⊢
  have hA : ∀ q : Nat, s.heap.size ≤ q → A q := fun q h => by rw [← hAe]; exact Or.inr h
  obtain ⟨H, hH0⟩ : ∃ H, H = s.heap := ⟨_, rfl⟩
  have hS : va_S A s.heap H [] := by rw [hH0]; exact va_S.rf
  have hP : va_P g.1 CLS [(x0, .inr (8, [.ref t0, .ref u0, .ref k0])), (t0, .inr (6, [.ref th, .ref ts, .ref tg, .ref td, .int 0, .ref tr, .int (-1), .int 0, .int 0, .int 0, .long 0, .int 0, .int 0]))] H := by rw [hH0]; exact hP
  rw [← hH0]
  have hl := lv_entry ([.ref x0]) (n := 2) (Nat.le_of_ble_eq_true rfl)
  rw [lg_entry_eq]
  generalize (lg_sl ([.ref x0]) ++ List.replicate (2 - (lg_sl ([.ref x0])).length) Slot.unset).toArray = ls at hl ⊢
  have hl : lv_has ls 2 [(0, .ref x0)] := hl
  refine lv_aload_n hx hb dX7_stand_0 rfl (lv_at hl 0 rfl) ?_
  refine va_get (D := g.1) (ci := 8) (v := .ref t0) (C := RX7) (T := TX7) (N := 3) hx hb htg inG_X7 hown hK hP 0 rfl rfl 0 (by decide) (htg _ k310) (fun _ h9 => h9) rfl dX7_stand_1 ?_
  have hPc := hP.sub (ws' := [(t0, .inr (6, [.ref th, .ref ts, .ref tg, .ref td, .int 0, .ref tr, .int (-1), .int 0, .int 0, .int 0, .long 0, .int 0, .int 0]))]) [1] rfl
  have hDc := hD.sub (ws' := [(t0, .inr (6, [.ref th, .ref ts, .ref tg, .ref td, .int 0, .ref tr, .int (-1), .int 0, .int 0, .int 0, .long 0, .int 0, .int 0]))]) [1] (by decide) rfl
  have hFc := va_free (wc := [(t0, .inr (6, [.ref th, .ref ts, .ref tg, .ref td, .int 0, .ref tr, .int (-1), .int 0, .int 0, .int 0, .long 0, .int 0, .int 0]))]) hD hS hA [1] rfl
  refine q_ci (wr := [(x0, .inr (8, [.ref t0, .ref u0, .ref k0]))]) (va_runV (As := []) (rest := []) ⟨hx, hb, hml, hown, htg⟩ (c_X5_rise l hfl g t0 th ts tg td tr  H.size) ⟨(qB htg k763 k51 k1216 ok_X5_rise rfl rfl ⟨Nat.le_of_ble_eq_true rfl, Nat.le_of_ble_eq_true rfl⟩), htg _ k761, htg _ k762⟩ ⟨(q_pre [.ref t0] hPc hDc hK hS hT hFc).1, va_recv hK hP (ci := 6) (q0 := 1) rfl rfl, (q_pre [.ref t0] hPc hDc hK hS hT hFc).2⟩ rfl rfl hl.1 rfl (lv_room (Nat.le_of_ble_eq_true rfl)) dX7_stand_4 ⟨Nat.le_of_ble_eq_true rfl, Nat.le_of_ble_eq_true rfl⟩) hP hD hS hFc [1] [0] rfl rfl (by decide) (by decide) (fun r9 u9 H locs hw hP hD hS => ?_)
  try dsimp only at hw
  rcases hw with ⟨rfl, rfl⟩
  have hP : va_P g.1 CLS [(x0, .inr (8, [.ref t0, .ref u0, .ref k0])), (t0, .inr (6, [.ref th, .ref ts, .ref tg, .ref td, .int 0, .ref tr, .int (-1), .int 0, .int 0, .int 0, .long 0, .int 0, .int 0]))] H := hP
  have hD : va_D A [(x0, .inr (8, [.ref t0, .ref u0, .ref k0])), (t0, .inr (6, [.ref th, .ref ts, .ref tg, .ref td, .int 0, .ref tr, .int (-1), .int 0, .int 0, .int 0, .long 0, .int 0, .int 0]))] := hD
  refine W.widen (k := 0) (n := 0) (Nat.le_of_ble_eq_true rfl) (Nat.le_of_ble_eq_true rfl) ?_
  have hPc := hP.sub (ws' := []) [] rfl
  have hDc := hD.sub (ws' := []) [] (by decide) rfl
  have hFc := va_free (wc := []) hD hS hA [] rfl
  refine q_xi (wr := [(x0, .inr (8, [.ref t0, .ref u0, .ref k0])), (t0, .inr (6, [.ref th, .ref ts, .ref tg, .ref td, .int 0, .ref tr, .int (-1), .int 0, .int 0, .int 0, .long 0, .int 0, .int 0]))]) (vx_runS (As := [.int (-1000003)]) (rest := []) ⟨hx, hb, hml, hown, htg⟩ (c_ans_1000003 l hfl g   H.size) ⟨(qB htg k827 k50 k825 ok_X7_answered rfl rfl ⟨Nat.le_of_ble_eq_true rfl, Nat.le_of_ble_eq_true rfl⟩), htg _ k826⟩ (q_pre [.int (-1000003)] hPc hDc hK hS hT hFc) rfl rfl hl.1 rfl (lv_room (Nat.le_of_ble_eq_true rfl)) dX7_stand_7 ⟨Nat.le_of_ble_eq_true rfl, Nat.le_of_ble_eq_true rfl⟩) hP hD hS hFc [] [0, 1] rfl rfl (by decide) (by decide) (fun E9 ce9 q9 H locs hpx hP hD hS hq1 hq2 hq3 => ?_) (fun r9 u9 H locs hw hP hD hS => ?_)
  · exact vx_out (hnoX _) B.notSynchronized hq1 hq2 hq3 (fun t ht hv => ⟨E9, hpx, rfl, hS.F ht⟩) hS.2.2 (Nat.le_of_ble_eq_true rfl) (Nat.le_of_ble_eq_true rfl)
  · exact hw.elim

set_option maxHeartbeats 4000000 in
set_option maxRecDepth 100000 in
theorem c_X7_step (l : Launch) (hfl : l.stackTraces = false) (g : GP) (x0 : Nat) (t0 : Nat) (th : Nat) (ts : Nat) (tg : Nat) (td : Nat) (tr : Nat) (u0 : Nat) (k0 : Nat) (n1 : Int32) (n2 : Int32)  : XI l yX7_step (wG yX7_step cX7_step 4 (Option.some Jvm.ClassFile.FieldType.boolean)) (LV 6 1 6) g [.ref x0, .int n1, .int n2] ([(x0, .inr (8, [.ref t0, .ref u0, .ref k0])), (t0, .inr (6, [.ref th, .ref ts, .ref tg, .ref td, .int 0, .ref tr, .int (-1), .int 0, .int 0, .int 0, .long 0, .int 0, .int 0]))]) (fun (r : Int32) (u : va_W) => False) (fun E : String => (E = "java/lang/IllegalArgumentException" ∧ (¬ okStep n1 n2)) ∨ (E = "java/lang/IllegalStateException" ∧ (okStep n1 n2))) := by
  intro sz
  refine vx_ofW (cc := cX7_step) (maxL := 4) (ret := (Option.some Jvm.ClassFile.FieldType.boolean)) (by decide) rfl ?_
  intro p e s m args below meth c s₁ B hml hno hv
  have hnoX : ∀ (k : Nat), ∀ x ∈ c.exceptionTable.toList, covers x k = false := fun k x h => (hno x h).elim
  obtain ⟨rfl, hsz, hP, hK, hD0, hT0⟩ := hv
  have hx := B.exec
  have hb := B.bytes
  have hr := B.returns
  have hts := atoms_spec (ws := (wG yX7_step cX7_step 4 (Option.some Jvm.ClassFile.FieldType.boolean))) B.pre
  have htg : ∀ w ∈ G9, w.before _ s = true := fun w h => hts w (List.mem_cons_of_mem _ h)
  have hown : s.vm.findClass "HeroTable" = some m.cls := findClass_of_methodNamed B.named
  have hlocks := B.notSynchronized
  subst hsz
  have hD := hD0.self (sz := s.heap.size)
  have hT := hT0
  clear hT0
  generalize hAe : va_A [(x0, .inr (8, [.ref t0, .ref u0, .ref k0])), (t0, .inr (6, [.ref th, .ref ts, .ref tg, .ref td, .int 0, .ref tr, .int (-1), .int 0, .int 0, .int 0, .long 0, .int 0, .int 0]))] s.heap.size = A at hD hT ⊢
  have hA : ∀ q : Nat, s.heap.size ≤ q → A q := fun q h => by rw [← hAe]; exact Or.inr h
  obtain ⟨H, hH0⟩ : ∃ H, H = s.heap := ⟨_, rfl⟩
  have hS : va_S A s.heap H [] := by rw [hH0]; exact va_S.rf
  have hP : va_P g.1 CLS [(x0, .inr (8, [.ref t0, .ref u0, .ref k0])), (t0, .inr (6, [.ref th, .ref ts, .ref tg, .ref td, .int 0, .ref tr, .int (-1), .int 0, .int 0, .int 0, .long 0, .int 0, .int 0]))] H := by rw [hH0]; exact hP
  rw [← hH0]
  have hl := lv_entry ([.ref x0, .int n1, .int n2]) (n := 4) (Nat.le_of_ble_eq_true rfl)
  rw [lg_entry_eq]
  generalize (lg_sl ([.ref x0, .int n1, .int n2]) ++ List.replicate (4 - (lg_sl ([.ref x0, .int n1, .int n2])).length) Slot.unset).toArray = ls at hl ⊢
  have hl : lv_has ls 4 [(0, .ref x0), (1, .int n1), (2, .int n2)] := hl
  refine lv_aload_n hx hb dX7_step_0 rfl (lv_at hl 0 rfl) ?_
  refine va_get (D := g.1) (ci := 8) (v := .ref t0) (C := RX7) (T := TX7) (N := 3) hx hb htg inG_X7 hown hK hP 0 rfl rfl 0 (by decide) (htg _ k310) (fun _ h9 => h9) rfl dX7_step_1 ?_
  refine lv_iload_n hx hb dX7_step_4 rfl (lv_at hl 1 rfl) ?_
  refine lv_iload_n hx hb dX7_step_5 rfl (lv_at hl 2 rfl) ?_
  have hPc := hP.sub (ws' := [(t0, .inr (6, [.ref th, .ref ts, .ref tg, .ref td, .int 0, .ref tr, .int (-1), .int 0, .int 0, .int 0, .long 0, .int 0, .int 0]))]) [1] rfl
  have hDc := hD.sub (ws' := [(t0, .inr (6, [.ref th, .ref ts, .ref tg, .ref td, .int 0, .ref tr, .int (-1), .int 0, .int 0, .int 0, .long 0, .int 0, .int 0]))]) [1] (by decide) rfl
  have hFc := va_free (wc := [(t0, .inr (6, [.ref th, .ref ts, .ref tg, .ref td, .int 0, .ref tr, .int (-1), .int 0, .int 0, .int 0, .long 0, .int 0, .int 0]))]) hD hS hA [1] rfl
  refine q_ci (wr := [(x0, .inr (8, [.ref t0, .ref u0, .ref k0]))]) (va_runV (As := [.int n1, .int n2]) (rest := []) ⟨hx, hb, hml, hown, htg⟩ (c_X5_walk l hfl g t0 th ts tg td tr n1 n2  H.size) ⟨(qB htg k750 k51 k1208 ok_X5_walk rfl rfl ⟨Nat.le_of_ble_eq_true rfl, Nat.le_of_ble_eq_true rfl⟩), htg _ k748, htg _ k749⟩ ⟨(q_pre [.ref t0, .int n1, .int n2] hPc hDc hK hS hT hFc).1, va_recv hK hP (ci := 6) (q0 := 1) rfl rfl, (q_pre [.ref t0, .int n1, .int n2] hPc hDc hK hS hT hFc).2⟩ rfl rfl hl.1 rfl (lv_room (Nat.le_of_ble_eq_true rfl)) dX7_step_6 ⟨Nat.le_of_ble_eq_true rfl, Nat.le_of_ble_eq_true rfl⟩) hP hD hS hFc [1] [0] rfl rfl (by decide) (by decide) (fun r9 u9 H locs hw hP hD hS => ?_)
  try dsimp only at hw
  rcases hw with ⟨c_1, rfl, rfl⟩ | ⟨c_2, rfl, rfl⟩
  · have hP : va_P g.1 CLS [(x0, .inr (8, [.ref t0, .ref u0, .ref k0])), (t0, .inr (6, [.ref th, .ref ts, .ref tg, .ref td, .int 0, .ref tr, .int (-1), .int 0, .int 0, .int 0, .long 0, .int 0, .int 0]))] H := hP
    have hD : va_D A [(x0, .inr (8, [.ref t0, .ref u0, .ref k0])), (t0, .inr (6, [.ref th, .ref ts, .ref tg, .ref td, .int 0, .ref tr, .int (-1), .int 0, .int 0, .int 0, .long 0, .int 0, .int 0]))] := hD
    refine W.widen (k := 0) (n := 0) (Nat.le_of_ble_eq_true rfl) (Nat.le_of_ble_eq_true rfl) ?_
    have hPc := hP.sub (ws' := []) [] rfl
    have hDc := hD.sub (ws' := []) [] (by decide) rfl
    have hFc := va_free (wc := []) hD hS hA [] rfl
    refine q_xi (wr := [(x0, .inr (8, [.ref t0, .ref u0, .ref k0])), (t0, .inr (6, [.ref th, .ref ts, .ref tg, .ref td, .int 0, .ref tr, .int (-1), .int 0, .int 0, .int 0, .long 0, .int 0, .int 0]))]) (vx_runS (As := [.int (-1000003)]) (rest := []) ⟨hx, hb, hml, hown, htg⟩ (c_ans_1000003 l hfl g   H.size) ⟨(qB htg k827 k50 k825 ok_X7_answered rfl rfl ⟨Nat.le_of_ble_eq_true rfl, Nat.le_of_ble_eq_true rfl⟩), htg _ k826⟩ (q_pre [.int (-1000003)] hPc hDc hK hS hT hFc) rfl rfl hl.1 rfl (lv_room (Nat.le_of_ble_eq_true rfl)) dX7_step_9 ⟨Nat.le_of_ble_eq_true rfl, Nat.le_of_ble_eq_true rfl⟩) hP hD hS hFc [] [0, 1] rfl rfl (by decide) (by decide) (fun E9 ce9 q9 H locs hpx hP hD hS hq1 hq2 hq3 => ?_) (fun r9 u9 H locs hw hP hD hS => ?_)
    · exact vx_out (hnoX _) B.notSynchronized hq1 hq2 hq3 (fun t ht hv => ⟨E9, Or.inr ⟨hpx, c_1⟩, rfl, hS.F ht⟩) hS.2.2 (Nat.le_of_ble_eq_true rfl) (Nat.le_of_ble_eq_true rfl)
    · exact hw.elim
  · have hP : va_P g.1 CLS [(x0, .inr (8, [.ref t0, .ref u0, .ref k0])), (t0, .inr (6, [.ref th, .ref ts, .ref tg, .ref td, .int 0, .ref tr, .int (-1), .int 0, .int 0, .int 0, .long 0, .int 0, .int 0]))] H := hP
    have hD : va_D A [(x0, .inr (8, [.ref t0, .ref u0, .ref k0])), (t0, .inr (6, [.ref th, .ref ts, .ref tg, .ref td, .int 0, .ref tr, .int (-1), .int 0, .int 0, .int 0, .long 0, .int 0, .int 0]))] := hD
    refine W.widen (k := 0) (n := 0) (Nat.le_of_ble_eq_true rfl) (Nat.le_of_ble_eq_true rfl) ?_
    have hPc := hP.sub (ws' := []) [] rfl
    have hDc := hD.sub (ws' := []) [] (by decide) rfl
    have hFc := va_free (wc := []) hD hS hA [] rfl
    refine q_xi (wr := [(x0, .inr (8, [.ref t0, .ref u0, .ref k0])), (t0, .inr (6, [.ref th, .ref ts, .ref tg, .ref td, .int 0, .ref tr, .int (-1), .int 0, .int 0, .int 0, .long 0, .int 0, .int 0]))]) (vx_runS (As := [.int (-1000002)]) (rest := []) ⟨hx, hb, hml, hown, htg⟩ (c_ans_1000002 l hfl g   H.size) ⟨(qB htg k827 k50 k825 ok_X7_answered rfl rfl ⟨Nat.le_of_ble_eq_true rfl, Nat.le_of_ble_eq_true rfl⟩), htg _ k826⟩ (q_pre [.int (-1000002)] hPc hDc hK hS hT hFc) rfl rfl hl.1 rfl (lv_room (Nat.le_of_ble_eq_true rfl)) dX7_step_9 ⟨Nat.le_of_ble_eq_true rfl, Nat.le_of_ble_eq_true rfl⟩) hP hD hS hFc [] [0, 1] rfl rfl (by decide) (by decide) (fun E9 ce9 q9 H locs hpx hP hD hS hq1 hq2 hq3 => ?_) (fun r9 u9 H locs hw hP hD hS => ?_)
    · exact vx_out (hnoX _) B.notSynchronized hq1 hq2 hq3 (fun t ht hv => ⟨E9, Or.inl ⟨hpx, c_2⟩, rfl, hS.F ht⟩) hS.2.2 (Nat.le_of_ble_eq_true rfl) (Nat.le_of_ble_eq_true rfl)
    · exact hw.elim

set_option maxHeartbeats 4000000 in
set_option maxRecDepth 100000 in
theorem c_X7_ready (l : Launch) (hfl : l.stackTraces = false) (g : GP) (x0 : Nat) (t0 : Nat) (th : Nat) (ts : Nat) (tg : Nat) (td : Nat) (tr : Nat) (u0 : Nat) (k0 : Nat) (n1 : Int32) (n2 : Int32)  : XI l yX7_ready (wG yX7_ready cX7_ready 4 (Option.some Jvm.ClassFile.FieldType.boolean)) (LV 6 1 6) g [.ref x0, .int n1, .int n2] ([(x0, .inr (8, [.ref t0, .ref u0, .ref k0])), (t0, .inr (6, [.ref th, .ref ts, .ref tg, .ref td, .int 0, .ref tr, .int (-1), .int 0, .int 0, .int 0, .long 0, .int 0, .int 0]))]) (fun (r : Int32) (u : va_W) => False) (fun E : String => (E = "java/lang/IllegalArgumentException" ∧ (¬ okRdy n1 n2)) ∨ (E = "java/lang/IllegalStateException" ∧ (okRdy n1 n2))) := by
  intro sz
  refine vx_ofW (cc := cX7_ready) (maxL := 4) (ret := (Option.some Jvm.ClassFile.FieldType.boolean)) (by decide) rfl ?_
  intro p e s m args below meth c s₁ B hml hno hv
  have hnoX : ∀ (k : Nat), ∀ x ∈ c.exceptionTable.toList, covers x k = false := fun k x h => (hno x h).elim
  obtain ⟨rfl, hsz, hP, hK, hD0, hT0⟩ := hv
  have hx := B.exec
  have hb := B.bytes
  have hr := B.returns
  have hts := atoms_spec (ws := (wG yX7_ready cX7_ready 4 (Option.some Jvm.ClassFile.FieldType.boolean))) B.pre
  have htg : ∀ w ∈ G9, w.before _ s = true := fun w h => hts w (List.mem_cons_of_mem _ h)
  have hown : s.vm.findClass "HeroTable" = some m.cls := findClass_of_methodNamed B.named
  have hlocks := B.notSynchronized
  subst hsz
  have hD := hD0.self (sz := s.heap.size)
  have hT := hT0
  clear hT0
  generalize hAe : va_A [(x0, .inr (8, [.ref t0, .ref u0, .ref k0])), (t0, .inr (6, [.ref th, .ref ts, .ref tg, .ref td, .int 0, .ref tr, .int (-1), .int 0, .int 0, .int 0, .long 0, .int 0, .int 0]))] s.heap.size = A at hD hT ⊢
  have hA : ∀ q : Nat, s.heap.size ≤ q → A q := fun q h => by rw [← hAe]; exact Or.inr h
  obtain ⟨H, hH0⟩ : ∃ H, H = s.heap := ⟨_, rfl⟩
  have hS : va_S A s.heap H [] := by rw [hH0]; exact va_S.rf
  have hP : va_P g.1 CLS [(x0, .inr (8, [.ref t0, .ref u0, .ref k0])), (t0, .inr (6, [.ref th, .ref ts, .ref tg, .ref td, .int 0, .ref tr, .int (-1), .int 0, .int 0, .int 0, .long 0, .int 0, .int 0]))] H := by rw [hH0]; exact hP
  rw [← hH0]
  have hl := lv_entry ([.ref x0, .int n1, .int n2]) (n := 4) (Nat.le_of_ble_eq_true rfl)
  rw [lg_entry_eq]
  generalize (lg_sl ([.ref x0, .int n1, .int n2]) ++ List.replicate (4 - (lg_sl ([.ref x0, .int n1, .int n2])).length) Slot.unset).toArray = ls at hl ⊢
  have hl : lv_has ls 4 [(0, .ref x0), (1, .int n1), (2, .int n2)] := hl
  refine lv_aload_n hx hb dX7_ready_0 rfl (lv_at hl 0 rfl) ?_
  refine va_get (D := g.1) (ci := 8) (v := .ref t0) (C := RX7) (T := TX7) (N := 3) hx hb htg inG_X7 hown hK hP 0 rfl rfl 0 (by decide) (htg _ k310) (fun _ h9 => h9) rfl dX7_ready_1 ?_
  refine lv_iload_n hx hb dX7_ready_4 rfl (lv_at hl 1 rfl) ?_
  refine lv_iload_n hx hb dX7_ready_5 rfl (lv_at hl 2 rfl) ?_
  have hPc := hP.sub (ws' := [(t0, .inr (6, [.ref th, .ref ts, .ref tg, .ref td, .int 0, .ref tr, .int (-1), .int 0, .int 0, .int 0, .long 0, .int 0, .int 0]))]) [1] rfl
  have hDc := hD.sub (ws' := [(t0, .inr (6, [.ref th, .ref ts, .ref tg, .ref td, .int 0, .ref tr, .int (-1), .int 0, .int 0, .int 0, .long 0, .int 0, .int 0]))]) [1] (by decide) rfl
  have hFc := va_free (wc := [(t0, .inr (6, [.ref th, .ref ts, .ref tg, .ref td, .int 0, .ref tr, .int (-1), .int 0, .int 0, .int 0, .long 0, .int 0, .int 0]))]) hD hS hA [1] rfl
  refine q_ci (wr := [(x0, .inr (8, [.ref t0, .ref u0, .ref k0]))]) (va_runV (As := [.int n1, .int n2]) (rest := []) ⟨hx, hb, hml, hown, htg⟩ (c_X5_prepare l hfl g t0 th ts tg td tr n1 n2  H.size) ⟨(qB htg k771 k51 k1224 ok_X5_prepare rfl rfl ⟨Nat.le_of_ble_eq_true rfl, Nat.le_of_ble_eq_true rfl⟩), htg _ k769, htg _ k770⟩ ⟨(q_pre [.ref t0, .int n1, .int n2] hPc hDc hK hS hT hFc).1, va_recv hK hP (ci := 6) (q0 := 1) rfl rfl, (q_pre [.ref t0, .int n1, .int n2] hPc hDc hK hS hT hFc).2⟩ rfl rfl hl.1 rfl (lv_room (Nat.le_of_ble_eq_true rfl)) dX7_ready_6 ⟨Nat.le_of_ble_eq_true rfl, Nat.le_of_ble_eq_true rfl⟩) hP hD hS hFc [1] [0] rfl rfl (by decide) (by decide) (fun r9 u9 H locs hw hP hD hS => ?_)
  try dsimp only at hw
  rcases hw with ⟨c_1, rfl, rfl⟩ | ⟨c_2, rfl, rfl⟩
  · have hP : va_P g.1 CLS [(x0, .inr (8, [.ref t0, .ref u0, .ref k0])), (t0, .inr (6, [.ref th, .ref ts, .ref tg, .ref td, .int 0, .ref tr, .int (-1), .int 0, .int 0, .int 0, .long 0, .int 0, .int 0]))] H := hP
    have hD : va_D A [(x0, .inr (8, [.ref t0, .ref u0, .ref k0])), (t0, .inr (6, [.ref th, .ref ts, .ref tg, .ref td, .int 0, .ref tr, .int (-1), .int 0, .int 0, .int 0, .long 0, .int 0, .int 0]))] := hD
    refine W.widen (k := 0) (n := 0) (Nat.le_of_ble_eq_true rfl) (Nat.le_of_ble_eq_true rfl) ?_
    have hPc := hP.sub (ws' := []) [] rfl
    have hDc := hD.sub (ws' := []) [] (by decide) rfl
    have hFc := va_free (wc := []) hD hS hA [] rfl
    refine q_xi (wr := [(x0, .inr (8, [.ref t0, .ref u0, .ref k0])), (t0, .inr (6, [.ref th, .ref ts, .ref tg, .ref td, .int 0, .ref tr, .int (-1), .int 0, .int 0, .int 0, .long 0, .int 0, .int 0]))]) (vx_runS (As := [.int (-1000003)]) (rest := []) ⟨hx, hb, hml, hown, htg⟩ (c_ans_1000003 l hfl g   H.size) ⟨(qB htg k827 k50 k825 ok_X7_answered rfl rfl ⟨Nat.le_of_ble_eq_true rfl, Nat.le_of_ble_eq_true rfl⟩), htg _ k826⟩ (q_pre [.int (-1000003)] hPc hDc hK hS hT hFc) rfl rfl hl.1 rfl (lv_room (Nat.le_of_ble_eq_true rfl)) dX7_ready_9 ⟨Nat.le_of_ble_eq_true rfl, Nat.le_of_ble_eq_true rfl⟩) hP hD hS hFc [] [0, 1] rfl rfl (by decide) (by decide) (fun E9 ce9 q9 H locs hpx hP hD hS hq1 hq2 hq3 => ?_) (fun r9 u9 H locs hw hP hD hS => ?_)
    · exact vx_out (hnoX _) B.notSynchronized hq1 hq2 hq3 (fun t ht hv => ⟨E9, Or.inr ⟨hpx, c_1⟩, rfl, hS.F ht⟩) hS.2.2 (Nat.le_of_ble_eq_true rfl) (Nat.le_of_ble_eq_true rfl)
    · exact hw.elim
  · have hP : va_P g.1 CLS [(x0, .inr (8, [.ref t0, .ref u0, .ref k0])), (t0, .inr (6, [.ref th, .ref ts, .ref tg, .ref td, .int 0, .ref tr, .int (-1), .int 0, .int 0, .int 0, .long 0, .int 0, .int 0]))] H := hP
    have hD : va_D A [(x0, .inr (8, [.ref t0, .ref u0, .ref k0])), (t0, .inr (6, [.ref th, .ref ts, .ref tg, .ref td, .int 0, .ref tr, .int (-1), .int 0, .int 0, .int 0, .long 0, .int 0, .int 0]))] := hD
    refine W.widen (k := 0) (n := 0) (Nat.le_of_ble_eq_true rfl) (Nat.le_of_ble_eq_true rfl) ?_
    have hPc := hP.sub (ws' := []) [] rfl
    have hDc := hD.sub (ws' := []) [] (by decide) rfl
    have hFc := va_free (wc := []) hD hS hA [] rfl
    refine q_xi (wr := [(x0, .inr (8, [.ref t0, .ref u0, .ref k0])), (t0, .inr (6, [.ref th, .ref ts, .ref tg, .ref td, .int 0, .ref tr, .int (-1), .int 0, .int 0, .int 0, .long 0, .int 0, .int 0]))]) (vx_runS (As := [.int (-1000002)]) (rest := []) ⟨hx, hb, hml, hown, htg⟩ (c_ans_1000002 l hfl g   H.size) ⟨(qB htg k827 k50 k825 ok_X7_answered rfl rfl ⟨Nat.le_of_ble_eq_true rfl, Nat.le_of_ble_eq_true rfl⟩), htg _ k826⟩ (q_pre [.int (-1000002)] hPc hDc hK hS hT hFc) rfl rfl hl.1 rfl (lv_room (Nat.le_of_ble_eq_true rfl)) dX7_ready_9 ⟨Nat.le_of_ble_eq_true rfl, Nat.le_of_ble_eq_true rfl⟩) hP hD hS hFc [] [0, 1] rfl rfl (by decide) (by decide) (fun E9 ce9 q9 H locs hpx hP hD hS hq1 hq2 hq3 => ?_) (fun r9 u9 H locs hw hP hD hS => ?_)
    · exact vx_out (hnoX _) B.notSynchronized hq1 hq2 hq3 (fun t ht hv => ⟨E9, Or.inl ⟨hpx, c_2⟩, rfl, hS.F ht⟩) hS.2.2 (Nat.le_of_ble_eq_true rfl) (Nat.le_of_ble_eq_true rfl)
    · exact hw.elim

set_option maxHeartbeats 4000000 in
set_option maxRecDepth 100000 in
theorem c_X7_cast (l : Launch) (hfl : l.stackTraces = false) (g : GP) (x0 : Nat) (t0 : Nat) (th : Nat) (ts : Nat) (tg : Nat) (td : Nat) (tr : Nat) (u0 : Nat) (k0 : Nat) (n1 : Int32) (n2 : Int32) (n3 : Int32)  : XI l yX7_cast (wG yX7_cast cX7_cast 5 (Option.some Jvm.ClassFile.FieldType.char)) (LV 7 1 6) g [.ref x0, .int n1, .int n2, .int n3] ([(x0, .inr (8, [.ref t0, .ref u0, .ref k0])), (t0, .inr (6, [.ref th, .ref ts, .ref tg, .ref td, .int 0, .ref tr, .int (-1), .int 0, .int 0, .int 0, .long 0, .int 0, .int 0]))]) (fun (r : Int32) (u : va_W) => False) (fun E : String => (E = "java/lang/IllegalArgumentException" ∧ (¬ okCast n1 n2 n3)) ∨ (E = "java/lang/IllegalStateException" ∧ (okCast n1 n2 n3))) := by
  intro sz
  refine vx_ofW (cc := cX7_cast) (maxL := 5) (ret := (Option.some Jvm.ClassFile.FieldType.char)) (by decide) rfl ?_
  intro p e s m args below meth c s₁ B hml hno hv
  have hnoX : ∀ (k : Nat), ∀ x ∈ c.exceptionTable.toList, covers x k = false := fun k x h => (hno x h).elim
  obtain ⟨rfl, hsz, hP, hK, hD0, hT0⟩ := hv
  have hx := B.exec
  have hb := B.bytes
  have hr := B.returns
  have hts := atoms_spec (ws := (wG yX7_cast cX7_cast 5 (Option.some Jvm.ClassFile.FieldType.char))) B.pre
  have htg : ∀ w ∈ G9, w.before _ s = true := fun w h => hts w (List.mem_cons_of_mem _ h)
  have hown : s.vm.findClass "HeroTable" = some m.cls := findClass_of_methodNamed B.named
  have hlocks := B.notSynchronized
  subst hsz
  have hD := hD0.self (sz := s.heap.size)
  have hT := hT0
  clear hT0
  generalize hAe : va_A [(x0, .inr (8, [.ref t0, .ref u0, .ref k0])), (t0, .inr (6, [.ref th, .ref ts, .ref tg, .ref td, .int 0, .ref tr, .int (-1), .int 0, .int 0, .int 0, .long 0, .int 0, .int 0]))] s.heap.size = A at hD hT ⊢
  have hA : ∀ q : Nat, s.heap.size ≤ q → A q := fun q h => by rw [← hAe]; exact Or.inr h
  obtain ⟨H, hH0⟩ : ∃ H, H = s.heap := ⟨_, rfl⟩
  have hS : va_S A s.heap H [] := by rw [hH0]; exact va_S.rf
  have hP : va_P g.1 CLS [(x0, .inr (8, [.ref t0, .ref u0, .ref k0])), (t0, .inr (6, [.ref th, .ref ts, .ref tg, .ref td, .int 0, .ref tr, .int (-1), .int 0, .int 0, .int 0, .long 0, .int 0, .int 0]))] H := by rw [hH0]; exact hP
  rw [← hH0]
  have hl := lv_entry ([.ref x0, .int n1, .int n2, .int n3]) (n := 5) (Nat.le_of_ble_eq_true rfl)
  rw [lg_entry_eq]
  generalize (lg_sl ([.ref x0, .int n1, .int n2, .int n3]) ++ List.replicate (5 - (lg_sl ([.ref x0, .int n1, .int n2, .int n3])).length) Slot.unset).toArray = ls at hl ⊢
  have hl : lv_has ls 5 [(0, .ref x0), (1, .int n1), (2, .int n2), (3, .int n3)] := hl
  refine lv_aload_n hx hb dX7_cast_0 rfl (lv_at hl 0 rfl) ?_
  refine va_get (D := g.1) (ci := 8) (v := .ref t0) (C := RX7) (T := TX7) (N := 3) hx hb htg inG_X7 hown hK hP 0 rfl rfl 0 (by decide) (htg _ k310) (fun _ h9 => h9) rfl dX7_cast_1 ?_
  refine lv_iload_n hx hb dX7_cast_4 rfl (lv_at hl 1 rfl) ?_
  refine lv_iload_n hx hb dX7_cast_5 rfl (lv_at hl 2 rfl) ?_
  refine lv_iload_n hx hb dX7_cast_6 rfl (lv_at hl 3 rfl) ?_
  have hPc := hP.sub (ws' := [(t0, .inr (6, [.ref th, .ref ts, .ref tg, .ref td, .int 0, .ref tr, .int (-1), .int 0, .int 0, .int 0, .long 0, .int 0, .int 0]))]) [1] rfl
  have hDc := hD.sub (ws' := [(t0, .inr (6, [.ref th, .ref ts, .ref tg, .ref td, .int 0, .ref tr, .int (-1), .int 0, .int 0, .int 0, .long 0, .int 0, .int 0]))]) [1] (by decide) rfl
  have hFc := va_free (wc := [(t0, .inr (6, [.ref th, .ref ts, .ref tg, .ref td, .int 0, .ref tr, .int (-1), .int 0, .int 0, .int 0, .long 0, .int 0, .int 0]))]) hD hS hA [1] rfl
  refine q_ci (wr := [(x0, .inr (8, [.ref t0, .ref u0, .ref k0]))]) (va_runV (As := [.int n1, .int n2, .int n3]) (rest := []) ⟨hx, hb, hml, hown, htg⟩ (c_X5_castSpell l hfl g t0 th ts tg td tr n1 n2 n3  H.size) ⟨(qB htg k776 k51 k1232 ok_X5_castSpell rfl rfl ⟨Nat.le_of_ble_eq_true rfl, Nat.le_of_ble_eq_true rfl⟩), htg _ k774, htg _ k775⟩ ⟨(q_pre [.ref t0, .int n1, .int n2, .int n3] hPc hDc hK hS hT hFc).1, va_recv hK hP (ci := 6) (q0 := 1) rfl rfl, (q_pre [.ref t0, .int n1, .int n2, .int n3] hPc hDc hK hS hT hFc).2⟩ rfl rfl hl.1 rfl (lv_room (Nat.le_of_ble_eq_true rfl)) dX7_cast_7 ⟨Nat.le_of_ble_eq_true rfl, Nat.le_of_ble_eq_true rfl⟩) hP hD hS hFc [1] [0] rfl rfl (by decide) (by decide) (fun r9 u9 H locs hw hP hD hS => ?_)
  try dsimp only at hw
  rcases hw with ⟨c_1, rfl, rfl⟩ | ⟨c_2, rfl, rfl⟩
  · have hP : va_P g.1 CLS [(x0, .inr (8, [.ref t0, .ref u0, .ref k0])), (t0, .inr (6, [.ref th, .ref ts, .ref tg, .ref td, .int 0, .ref tr, .int (-1), .int 0, .int 0, .int 0, .long 0, .int 0, .int 0]))] H := hP
    have hD : va_D A [(x0, .inr (8, [.ref t0, .ref u0, .ref k0])), (t0, .inr (6, [.ref th, .ref ts, .ref tg, .ref td, .int 0, .ref tr, .int (-1), .int 0, .int 0, .int 0, .long 0, .int 0, .int 0]))] := hD
    refine W.widen (k := 0) (n := 0) (Nat.le_of_ble_eq_true rfl) (Nat.le_of_ble_eq_true rfl) ?_
    have hPc := hP.sub (ws' := []) [] rfl
    have hDc := hD.sub (ws' := []) [] (by decide) rfl
    have hFc := va_free (wc := []) hD hS hA [] rfl
    refine q_xi (wr := [(x0, .inr (8, [.ref t0, .ref u0, .ref k0])), (t0, .inr (6, [.ref th, .ref ts, .ref tg, .ref td, .int 0, .ref tr, .int (-1), .int 0, .int 0, .int 0, .long 0, .int 0, .int 0]))]) (vx_runS (As := [.int (-1000003)]) (rest := []) ⟨hx, hb, hml, hown, htg⟩ (c_ans_1000003 l hfl g   H.size) ⟨(qB htg k827 k50 k825 ok_X7_answered rfl rfl ⟨Nat.le_of_ble_eq_true rfl, Nat.le_of_ble_eq_true rfl⟩), htg _ k826⟩ (q_pre [.int (-1000003)] hPc hDc hK hS hT hFc) rfl rfl hl.1 rfl (lv_room (Nat.le_of_ble_eq_true rfl)) dX7_cast_10 ⟨Nat.le_of_ble_eq_true rfl, Nat.le_of_ble_eq_true rfl⟩) hP hD hS hFc [] [0, 1] rfl rfl (by decide) (by decide) (fun E9 ce9 q9 H locs hpx hP hD hS hq1 hq2 hq3 => ?_) (fun r9 u9 H locs hw hP hD hS => ?_)
    · exact vx_out (hnoX _) B.notSynchronized hq1 hq2 hq3 (fun t ht hv => ⟨E9, Or.inr ⟨hpx, c_1⟩, rfl, hS.F ht⟩) hS.2.2 (Nat.le_of_ble_eq_true rfl) (Nat.le_of_ble_eq_true rfl)
    · exact hw.elim
  · have hP : va_P g.1 CLS [(x0, .inr (8, [.ref t0, .ref u0, .ref k0])), (t0, .inr (6, [.ref th, .ref ts, .ref tg, .ref td, .int 0, .ref tr, .int (-1), .int 0, .int 0, .int 0, .long 0, .int 0, .int 0]))] H := hP
    have hD : va_D A [(x0, .inr (8, [.ref t0, .ref u0, .ref k0])), (t0, .inr (6, [.ref th, .ref ts, .ref tg, .ref td, .int 0, .ref tr, .int (-1), .int 0, .int 0, .int 0, .long 0, .int 0, .int 0]))] := hD
    refine W.widen (k := 0) (n := 0) (Nat.le_of_ble_eq_true rfl) (Nat.le_of_ble_eq_true rfl) ?_
    have hPc := hP.sub (ws' := []) [] rfl
    have hDc := hD.sub (ws' := []) [] (by decide) rfl
    have hFc := va_free (wc := []) hD hS hA [] rfl
    refine q_xi (wr := [(x0, .inr (8, [.ref t0, .ref u0, .ref k0])), (t0, .inr (6, [.ref th, .ref ts, .ref tg, .ref td, .int 0, .ref tr, .int (-1), .int 0, .int 0, .int 0, .long 0, .int 0, .int 0]))]) (vx_runS (As := [.int (-1000002)]) (rest := []) ⟨hx, hb, hml, hown, htg⟩ (c_ans_1000002 l hfl g   H.size) ⟨(qB htg k827 k50 k825 ok_X7_answered rfl rfl ⟨Nat.le_of_ble_eq_true rfl, Nat.le_of_ble_eq_true rfl⟩), htg _ k826⟩ (q_pre [.int (-1000002)] hPc hDc hK hS hT hFc) rfl rfl hl.1 rfl (lv_room (Nat.le_of_ble_eq_true rfl)) dX7_cast_10 ⟨Nat.le_of_ble_eq_true rfl, Nat.le_of_ble_eq_true rfl⟩) hP hD hS hFc [] [0, 1] rfl rfl (by decide) (by decide) (fun E9 ce9 q9 H locs hpx hP hD hS hq1 hq2 hq3 => ?_) (fun r9 u9 H locs hw hP hD hS => ?_)
    · exact vx_out (hnoX _) B.notSynchronized hq1 hq2 hq3 (fun t ht hv => ⟨E9, Or.inl ⟨hpx, c_2⟩, rfl, hS.F ht⟩) hS.2.2 (Nat.le_of_ble_eq_true rfl) (Nat.le_of_ble_eq_true rfl)
    · exact hw.elim

set_option maxHeartbeats 4000000 in
set_option maxRecDepth 100000 in
theorem c_X7_again (l : Launch) (hfl : l.stackTraces = false) (g : GP) (x0 : Nat) (t0 : Nat) (th : Nat) (ts : Nat) (tg : Nat) (td : Nat) (tr : Nat) (u0 : Nat) (k0 : Nat) (tv : Nat) (n1 : Int32) (n2 : Int32) (n3 : Int32)  : XI l yX7_again (wG yX7_again cX7_again 4 (Option.some Jvm.ClassFile.FieldType.int)) (LV 6 1 6) g [.ref x0, .int n1, .int n2, .int n3] ([(x0, .inr (8, [.ref t0, .ref u0, .ref k0])), (t0, .inr (6, [.ref th, .ref ts, .ref tg, .ref td, .int 0, .ref tr, .int (-1), .int 0, .int 0, .int 0, .long 0, .int 0, .int 0])), (td, .inr (2, [.ref tv, .int 0, .int 0]))]) (fun (r : Int32) (u : va_W) => False) (fun E : String => (E = "java/lang/IndexOutOfBoundsException")) := by
  intro sz
  refine vx_ofW (cc := cX7_again) (maxL := 4) (ret := (Option.some Jvm.ClassFile.FieldType.int)) (by decide) rfl ?_
  intro p e s m args below meth c s₁ B hml hno hv
  have hnoX : ∀ (k : Nat), ∀ x ∈ c.exceptionTable.toList, covers x k = false := fun k x h => (hno x h).elim
  obtain ⟨rfl, hsz, hP, hK, hD0, hT0⟩ := hv
  have hx := B.exec
  have hb := B.bytes
  have hr := B.returns
  have hts := atoms_spec (ws := (wG yX7_again cX7_again 4 (Option.some Jvm.ClassFile.FieldType.int))) B.pre
  have htg : ∀ w ∈ G9, w.before _ s = true := fun w h => hts w (List.mem_cons_of_mem _ h)
  have hown : s.vm.findClass "HeroTable" = some m.cls := findClass_of_methodNamed B.named
  have hlocks := B.notSynchronized
  subst hsz
  have hD := hD0.self (sz := s.heap.size)
  have hT := hT0
  clear hT0
  generalize hAe : va_A [(x0, .inr (8, [.ref t0, .ref u0, .ref k0])), (t0, .inr (6, [.ref th, .ref ts, .ref tg, .ref td, .int 0, .ref tr, .int (-1), .int 0, .int 0, .int 0, .long 0, .int 0, .int 0])), (td, .inr (2, [.ref tv, .int 0, .int 0]))] s.heap.size = A at hD hT ⊢
  have hA : ∀ q : Nat, s.heap.size ≤ q → A q := fun q h => by rw [← hAe]; exact Or.inr h
  obtain ⟨H, hH0⟩ : ∃ H, H = s.heap := ⟨_, rfl⟩
  have hS : va_S A s.heap H [] := by rw [hH0]; exact va_S.rf
  have hP : va_P g.1 CLS [(x0, .inr (8, [.ref t0, .ref u0, .ref k0])), (t0, .inr (6, [.ref th, .ref ts, .ref tg, .ref td, .int 0, .ref tr, .int (-1), .int 0, .int 0, .int 0, .long 0, .int 0, .int 0])), (td, .inr (2, [.ref tv, .int 0, .int 0]))] H := by rw [hH0]; exact hP
  rw [← hH0]
  have hl := lv_entry ([.ref x0, .int n1, .int n2, .int n3]) (n := 4) (Nat.le_of_ble_eq_true rfl)
  rw [lg_entry_eq]
  generalize (lg_sl ([.ref x0, .int n1, .int n2, .int n3]) ++ List.replicate (4 - (lg_sl ([.ref x0, .int n1, .int n2, .int n3])).length) Slot.unset).toArray = ls at hl ⊢
  have hl : lv_has ls 4 [(0, .ref x0), (1, .int n1), (2, .int n2), (3, .int n3)] := hl
  refine lv_iload_n hx hb dX7_again_0 rfl (lv_at hl 1 rfl) ?_
  refine lv_if_lt (tgt := 18) hx hb dX7_again_1 (by decide) (fun c_1 => ?_) (fun c_1 => ?_)
  · exact vx_throwS (own := "HeroTable") (cls := "java/lang/IndexOutOfBoundsException") (names := ["java/lang/RuntimeException", "java/lang/Exception"]) hx hb hfl hown rfl (by decide) (htg _ k829) (htg _ k67) (hT.2.1 _ (List.mem_of_getElem? (i := 15) rfl)) (hat_X7_117 htg hT.1) hgd_X7_117 hT.2.2.1.1 hT.2.2.1.2 hS (hl.1.trans hml.symm) dX7_again_18 dX7_again_21 dX7_again_22 dX7_again_24 dX7_again_27 (hnoX _) (Nat.lt_of_succ_le (Nat.le_of_ble_eq_true rfl)) (Nat.le_of_ble_eq_true rfl) (Nat.le_of_ble_eq_true rfl) (Nat.le_of_ble_eq_true rfl) B.notSynchronized (fun t ht h1 h2 => ⟨"java/lang/IndexOutOfBoundsException", rfl, rfl, q_frameX hS h1 h2⟩) hS.2.2 (Nat.le_of_ble_eq_true rfl) (Nat.le_of_ble_eq_true rfl)
  · refine lv_iload_n hx hb dX7_again_4 rfl (lv_at hl 1 rfl) ?_
    refine lv_aload_n hx hb dX7_again_5 rfl (lv_at hl 0 rfl) ?_
    refine va_get (D := g.1) (ci := 8) (v := .ref t0) (C := RX7) (T := TX7) (N := 3) hx hb htg inG_X7 hown hK hP 0 rfl rfl 0 (by decide) (htg _ k310) (fun _ h9 => h9) rfl dX7_again_6 ?_
    refine va_get (D := g.1) (ci := 6) (v := .ref td) (C := RX5) (T := TX5) (N := 13) hx hb htg inG_X5 hown hK hP 1 rfl rfl 3 (by decide) (htg _ k253) (fun _ h9 => h9) rfl dX7_again_9 ?_
    refine va_get (D := g.1) (ci := 2) (v := .int 0) (C := RX0) (T := TX0) (N := 3) hx hb htg inG_X0 hown hK hP 2 rfl rfl 1 (by decide) (htg _ k147) (fun _ h9 => h9) rfl dX7_again_12 ?_
    refine lv_icmp_lt (tgt := 28) hx hb dX7_again_15 (by decide) (fun c_2 => absurd c_2 (by simp only [fa_lt, fa_le, fa_eq, li0, li1, li5, li7, li8, li9, li20, li30, li40, li50, li97, li99, li103, li109, li115, li120, li255, lin1, lin20] at c_1 ⊢; omega)) (fun c_2 => ?_)
    exact vx_throwS (own := "HeroTable") (cls := "java/lang/IndexOutOfBoundsException") (names := ["java/lang/RuntimeException", "java/lang/Exception"]) hx hb hfl hown rfl (by decide) (htg _ k829) (htg _ k67) (hT.2.1 _ (List.mem_of_getElem? (i := 15) rfl)) (hat_X7_117 htg hT.1) hgd_X7_117 hT.2.2.1.1 hT.2.2.1.2 hS (hl.1.trans hml.symm) dX7_again_18 dX7_again_21 dX7_again_22 dX7_again_24 dX7_again_27 (hnoX _) (Nat.lt_of_succ_le (Nat.le_of_ble_eq_true rfl)) (Nat.le_of_ble_eq_true rfl) (Nat.le_of_ble_eq_true rfl) (Nat.le_of_ble_eq_true rfl) B.notSynchronized (fun t ht h1 h2 => ⟨"java/lang/IndexOutOfBoundsException", rfl, rfl, q_frameX hS h1 h2⟩) hS.2.2 (Nat.le_of_ble_eq_true rfl) (Nat.le_of_ble_eq_true rfl)

set_option maxHeartbeats 4000000 in
set_option maxRecDepth 100000 in
theorem c_X7_hitShare (l : Launch) (hfl : l.stackTraces = false) (g : GP) (x0 : Nat) (t0 : Nat) (th : Nat) (ts : Nat) (tg : Nat) (td : Nat) (tr : Nat) (u0 : Nat) (k0 : Nat)  : XF l yX7_hitShare (wG yX7_hitShare cX7_hitShare 1 (Option.some Jvm.ClassFile.FieldType.float)) (LV 6 1 6) g [.ref x0] ([(x0, .inr (8, [.ref t0, .ref u0, .ref k0])), (t0, .inr (6, [.ref th, .ref ts, .ref tg, .ref td, .int 0, .ref tr, .int (-1), .int 0, .int 0, .int 0, .long 0, .int 0, .int 0]))]) (fun (r : UInt32) (u : va_W) => False) (fun E : String => (E = "java/lang/ArithmeticException")) := by
  intro sz
  refine vx_ofW (cc := cX7_hitShare) (maxL := 1) (ret := (Option.some Jvm.ClassFile.FieldType.float)) (by decide) rfl ?_
  intro p e s m args below meth c s₁ B hml hno hv
  have hnoX : ∀ (k : Nat), ∀ x ∈ c.exceptionTable.toList, covers x k = false := fun k x h => (hno x h).elim
  obtain ⟨rfl, hsz, hP, hK, hD0, hT0⟩ := hv
  have hx := B.exec
  have hb := B.bytes
  have hr := B.returns
  have hts := atoms_spec (ws := (wG yX7_hitShare cX7_hitShare 1 (Option.some Jvm.ClassFile.FieldType.float))) B.pre
  have htg : ∀ w ∈ G9, w.before _ s = true := fun w h => hts w (List.mem_cons_of_mem _ h)
  have hown : s.vm.findClass "HeroTable" = some m.cls := findClass_of_methodNamed B.named
  have hlocks := B.notSynchronized
  subst hsz
  have hD := hD0.self (sz := s.heap.size)
  have hT := hT0
  clear hT0
  generalize hAe : va_A [(x0, .inr (8, [.ref t0, .ref u0, .ref k0])), (t0, .inr (6, [.ref th, .ref ts, .ref tg, .ref td, .int 0, .ref tr, .int (-1), .int 0, .int 0, .int 0, .long 0, .int 0, .int 0]))] s.heap.size = A at hD hT ⊢
  have hA : ∀ q : Nat, s.heap.size ≤ q → A q := fun q h => by rw [← hAe]; exact Or.inr h
  obtain ⟨H, hH0⟩ : ∃ H, H = s.heap := ⟨_, rfl⟩
  have hS : va_S A s.heap H [] := by rw [hH0]; exact va_S.rf
  have hP : va_P g.1 CLS [(x0, .inr (8, [.ref t0, .ref u0, .ref k0])), (t0, .inr (6, [.ref th, .ref ts, .ref tg, .ref td, .int 0, .ref tr, .int (-1), .int 0, .int 0, .int 0, .long 0, .int 0, .int 0]))] H := by rw [hH0]; exact hP
  rw [← hH0]
  have hl := lv_entry ([.ref x0]) (n := 1) (Nat.le_of_ble_eq_true rfl)
  rw [lg_entry_eq]
  generalize (lg_sl ([.ref x0]) ++ List.replicate (1 - (lg_sl ([.ref x0])).length) Slot.unset).toArray = ls at hl ⊢
  have hl : lv_has ls 1 [(0, .ref x0)] := hl
  refine lv_aload_n hx hb dX7_hitShare_0 rfl (lv_at hl 0 rfl) ?_
  refine va_get (D := g.1) (ci := 8) (v := .ref t0) (C := RX7) (T := TX7) (N := 3) hx hb htg inG_X7 hown hK hP 0 rfl rfl 0 (by decide) (htg _ k310) (fun _ h9 => h9) rfl dX7_hitShare_1 ?_
  refine va_get (D := g.1) (ci := 6) (v := .int 0) (C := RX5) (T := TX5) (N := 13) hx hb htg inG_X5 hown hK hP 1 rfl rfl 11 (by decide) (htg _ k266) (fun _ h9 => h9) rfl dX7_hitShare_4 ?_
  refine lv_if_ne (tgt := 20) hx hb dX7_hitShare_7 (by decide) (fun c_1 => absurd (by decide) c_1) (fun c_1 => ?_)
  exact vx_throwS (own := "HeroTable") (cls := "java/lang/ArithmeticException") (names := ["java/lang/RuntimeException", "java/lang/Exception"]) hx hb hfl hown rfl (by decide) (htg _ k1277) (htg _ k91) (hT.2.1 _ (List.mem_of_getElem? (i := 16) rfl)) (hat_X7_242 htg hT.1) hgd_X7_242 hT.2.2.1.1 hT.2.2.1.2 hS (hl.1.trans hml.symm) dX7_hitShare_10 dX7_hitShare_13 dX7_hitShare_14 dX7_hitShare_16 dX7_hitShare_19 (hnoX _) (Nat.lt_of_succ_le (Nat.le_of_ble_eq_true rfl)) (Nat.le_of_ble_eq_true rfl) (Nat.le_of_ble_eq_true rfl) (Nat.le_of_ble_eq_true rfl) B.notSynchronized (fun t ht h1 h2 => ⟨"java/lang/ArithmeticException", rfl, rfl, q_frameX hS h1 h2⟩) hS.2.2 (Nat.le_of_ble_eq_true rfl) (Nat.le_of_ble_eq_true rfl)

set_option maxHeartbeats 4000000 in
set_option maxRecDepth 100000 in
theorem c_X7_meanLife (l : Launch) (hfl : l.stackTraces = false) (g : GP) (x0 : Nat) (t0 : Nat) (th : Nat) (ts : Nat) (tg : Nat) (td : Nat) (tr : Nat) (u0 : Nat) (k0 : Nat)  : XD l yX7_meanLife (wG yX7_meanLife cX7_meanLife 3 (Option.some Jvm.ClassFile.FieldType.double)) (LV 6 1 6) g [.ref x0] ([(x0, .inr (8, [.ref t0, .ref u0, .ref k0])), (t0, .inr (6, [.ref th, .ref ts, .ref tg, .ref td, .int 0, .ref tr, .int (-1), .int 0, .int 0, .int 0, .long 0, .int 0, .int 0]))]) (fun (r : UInt64) (u : va_W) => False) (fun E : String => (E = "java/lang/ArithmeticException")) := by
  intro sz
  refine vx_ofW (cc := cX7_meanLife) (maxL := 3) (ret := (Option.some Jvm.ClassFile.FieldType.double)) (by decide) rfl ?_
  intro p e s m args below meth c s₁ B hml hno hv
  have hnoX : ∀ (k : Nat), ∀ x ∈ c.exceptionTable.toList, covers x k = false := fun k x h => (hno x h).elim
  obtain ⟨rfl, hsz, hP, hK, hD0, hT0⟩ := hv
  have hx := B.exec
  have hb := B.bytes
  have hr := B.returns
  have hts := atoms_spec (ws := (wG yX7_meanLife cX7_meanLife 3 (Option.some Jvm.ClassFile.FieldType.double))) B.pre
  have htg : ∀ w ∈ G9, w.before _ s = true := fun w h => hts w (List.mem_cons_of_mem _ h)
  have hown : s.vm.findClass "HeroTable" = some m.cls := findClass_of_methodNamed B.named
  have hlocks := B.notSynchronized
  subst hsz
  have hD := hD0.self (sz := s.heap.size)
  have hT := hT0
  clear hT0
  generalize hAe : va_A [(x0, .inr (8, [.ref t0, .ref u0, .ref k0])), (t0, .inr (6, [.ref th, .ref ts, .ref tg, .ref td, .int 0, .ref tr, .int (-1), .int 0, .int 0, .int 0, .long 0, .int 0, .int 0]))] s.heap.size = A at hD hT ⊢
  have hA : ∀ q : Nat, s.heap.size ≤ q → A q := fun q h => by rw [← hAe]; exact Or.inr h
  obtain ⟨H, hH0⟩ : ∃ H, H = s.heap := ⟨_, rfl⟩
  have hS : va_S A s.heap H [] := by rw [hH0]; exact va_S.rf
  have hP : va_P g.1 CLS [(x0, .inr (8, [.ref t0, .ref u0, .ref k0])), (t0, .inr (6, [.ref th, .ref ts, .ref tg, .ref td, .int 0, .ref tr, .int (-1), .int 0, .int 0, .int 0, .long 0, .int 0, .int 0]))] H := by rw [hH0]; exact hP
  rw [← hH0]
  have hl := lv_entry ([.ref x0]) (n := 3) (Nat.le_of_ble_eq_true rfl)
  rw [lg_entry_eq]
  generalize (lg_sl ([.ref x0]) ++ List.replicate (3 - (lg_sl ([.ref x0])).length) Slot.unset).toArray = ls at hl ⊢
  have hl : lv_has ls 3 [(0, .ref x0)] := hl
  refine lv_aload_n hx hb dX7_meanLife_0 rfl (lv_at hl 0 rfl) ?_
  refine va_get (D := g.1) (ci := 8) (v := .ref t0) (C := RX7) (T := TX7) (N := 3) hx hb htg inG_X7 hown hK hP 0 rfl rfl 0 (by decide) (htg _ k310) (fun _ h9 => h9) rfl dX7_meanLife_1 ?_
  refine va_get (D := g.1) (ci := 6) (v := .int 0) (C := RX5) (T := TX5) (N := 13) hx hb htg inG_X5 hown hK hP 1 rfl rfl 4 (by decide) (htg _ k255) (fun _ h9 => h9) rfl dX7_meanLife_4 ?_
  refine lv_if_ne (tgt := 20) hx hb dX7_meanLife_7 (by decide) (fun c_1 => absurd (by decide) c_1) (fun c_1 => ?_)
  exact vx_throwS (own := "HeroTable") (cls := "java/lang/ArithmeticException") (names := ["java/lang/RuntimeException", "java/lang/Exception"]) hx hb hfl hown rfl (by decide) (htg _ k1277) (htg _ k91) (hT.2.1 _ (List.mem_of_getElem? (i := 11) rfl)) (hat_X7_242 htg hT.1) hgd_X7_242 hT.2.2.1.1 hT.2.2.1.2 hS (hl.1.trans hml.symm) dX7_meanLife_10 dX7_meanLife_13 dX7_meanLife_14 dX7_meanLife_16 dX7_meanLife_19 (hnoX _) (Nat.lt_of_succ_le (Nat.le_of_ble_eq_true rfl)) (Nat.le_of_ble_eq_true rfl) (Nat.le_of_ble_eq_true rfl) (Nat.le_of_ble_eq_true rfl) B.notSynchronized (fun t ht h1 h2 => ⟨"java/lang/ArithmeticException", rfl, rfl, q_frameX hS h1 h2⟩) hS.2.2 (Nat.le_of_ble_eq_true rfl) (Nat.le_of_ble_eq_true rfl)

set_option maxHeartbeats 4000000 in
set_option maxRecDepth 100000 in
theorem c_X7_isSound (l : Launch) (hfl : l.stackTraces = false) (g : GP) (x0 : Nat) (t0 : Nat) (th : Nat) (ts : Nat) (tg : Nat) (td : Nat) (tr : Nat) (k0 : Nat) (kr : Nat) (tw : Nat) (u0 : Nat) (uh : Nat) (us : Nat) (ug : Nat) (ud : Nat) (ur : Nat) (uw : Nat) (uc : Nat) (uv : Nat) (fu : Nat → Int32)  : CI l yX7_isSound (wG yX7_isSound cX7_isSound 1 (Option.some Jvm.ClassFile.FieldType.boolean)) (LV 6 0 0) g [.ref x0] ([(x0, .inr (8, [.ref t0, .ref u0, .ref k0])), (t0, .inr (6, [.ref th, .ref ts, .ref tg, .ref td, .int 0, .ref tr, .int (-1), .int 0, .int 0, .int 0, .long 0, .int 0, .int 0])), (ts, .inr (5, [.ref th, .ref tw, .int 0])), (k0, .inr (7, [.ref kr, .int 0])), (u0, .inr (6, [.ref uh, .ref us, .ref ug, .ref ud, .int 0, .ref ur, .int (-1), .int 0, .int 0, .int 0, .long 0, .int 0, .int 0])), (us, .inr (5, [.ref uh, .ref uw, .int 0])), (ug, .inr (3, [.ref uc])), (uc, .inl (g.2.1 0, 64, .inl fu)), (ud, .inr (2, [.ref uv, .int 0, .int 0]))]) (fun (r : Int32) (u : va_W) => r = 1 ∧ u = []) := by
  intro sz
  refine Met.ofW (cc := cX7_isSound) (maxL := 1) (ret := (Option.some Jvm.ClassFile.FieldType.boolean)) (by decide) rfl ?_
  intro p e s m args below meth c s₁ B hml hv
  obtain ⟨rfl, hsz, hP, hK, hD0, hT0⟩ := hv
  have hx := B.exec
  have hb := B.bytes
  have hr := B.returns
  have hts := atoms_spec (ws := (wG yX7_isSound cX7_isSound 1 (Option.some Jvm.ClassFile.FieldType.boolean))) B.pre
  have htg : ∀ w ∈ G9, w.before _ s = true := fun w h => hts w (List.mem_cons_of_mem _ h)
  have hown : s.vm.findClass "HeroTable" = some m.cls := findClass_of_methodNamed B.named
  have hlocks := B.notSynchronized
  subst hsz
  have hD := hD0.self (sz := s.heap.size)
  have hT := hT0
  clear hT0
  generalize hAe : va_A [(x0, .inr (8, [.ref t0, .ref u0, .ref k0])), (t0, .inr (6, [.ref th, .ref ts, .ref tg, .ref td, .int 0, .ref tr, .int (-1), .int 0, .int 0, .int 0, .long 0, .int 0, .int 0])), (ts, .inr (5, [.ref th, .ref tw, .int 0])), (k0, .inr (7, [.ref kr, .int 0])), (u0, .inr (6, [.ref uh, .ref us, .ref ug, .ref ud, .int 0, .ref ur, .int (-1), .int 0, .int 0, .int 0, .long 0, .int 0, .int 0])), (us, .inr (5, [.ref uh, .ref uw, .int 0])), (ug, .inr (3, [.ref uc])), (uc, .inl (g.2.1 0, 64, .inl fu)), (ud, .inr (2, [.ref uv, .int 0, .int 0]))] s.heap.size = A at hD hT ⊢
  have hA : ∀ q : Nat, s.heap.size ≤ q → A q := fun q h => by rw [← hAe]; exact Or.inr h
  obtain ⟨H, hH0⟩ : ∃ H, H = s.heap := ⟨_, rfl⟩
  have hS : va_S A s.heap H [] := by rw [hH0]; exact va_S.rf
  have hP : va_P g.1 CLS [(x0, .inr (8, [.ref t0, .ref u0, .ref k0])), (t0, .inr (6, [.ref th, .ref ts, .ref tg, .ref td, .int 0, .ref tr, .int (-1), .int 0, .int 0, .int 0, .long 0, .int 0, .int 0])), (ts, .inr (5, [.ref th, .ref tw, .int 0])), (k0, .inr (7, [.ref kr, .int 0])), (u0, .inr (6, [.ref uh, .ref us, .ref ug, .ref ud, .int 0, .ref ur, .int (-1), .int 0, .int 0, .int 0, .long 0, .int 0, .int 0])), (us, .inr (5, [.ref uh, .ref uw, .int 0])), (ug, .inr (3, [.ref uc])), (uc, .inl (g.2.1 0, 64, .inl fu)), (ud, .inr (2, [.ref uv, .int 0, .int 0]))] H := by rw [hH0]; exact hP
  rw [← hH0]
  have hl := lv_entry ([.ref x0]) (n := 1) (Nat.le_of_ble_eq_true rfl)
  rw [lg_entry_eq]
  generalize (lg_sl ([.ref x0]) ++ List.replicate (1 - (lg_sl ([.ref x0])).length) Slot.unset).toArray = ls at hl ⊢
  have hl : lv_has ls 1 [(0, .ref x0)] := hl
  refine lv_aload_n hx hb dX7_isSound_0 rfl (lv_at hl 0 rfl) ?_
  refine va_get (D := g.1) (ci := 8) (v := .ref t0) (C := RX7) (T := TX7) (N := 3) hx hb htg inG_X7 hown hK hP 0 rfl rfl 0 (by decide) (htg _ k310) (fun _ h9 => h9) rfl dX7_isSound_1 ?_
  have hPc := hP.sub (ws' := [(t0, .inr (6, [.ref th, .ref ts, .ref tg, .ref td, .int 0, .ref tr, .int (-1), .int 0, .int 0, .int 0, .long 0, .int 0, .int 0]))]) [1] rfl
  have hDc := hD.sub (ws' := [(t0, .inr (6, [.ref th, .ref ts, .ref tg, .ref td, .int 0, .ref tr, .int (-1), .int 0, .int 0, .int 0, .long 0, .int 0, .int 0]))]) [1] (by decide) rfl
  have hFc := va_free (wc := [(t0, .inr (6, [.ref th, .ref ts, .ref tg, .ref td, .int 0, .ref tr, .int (-1), .int 0, .int 0, .int 0, .long 0, .int 0, .int 0]))]) hD hS hA [1] rfl
  refine q_ci (wr := [(x0, .inr (8, [.ref t0, .ref u0, .ref k0])), (ts, .inr (5, [.ref th, .ref tw, .int 0])), (k0, .inr (7, [.ref kr, .int 0])), (u0, .inr (6, [.ref uh, .ref us, .ref ug, .ref ud, .int 0, .ref ur, .int (-1), .int 0, .int 0, .int 0, .long 0, .int 0, .int 0])), (us, .inr (5, [.ref uh, .ref uw, .int 0])), (ug, .inr (3, [.ref uc])), (uc, .inl (g.2.1 0, 64, .inl fu)), (ud, .inr (2, [.ref uv, .int 0, .int 0]))]) (va_runV (As := []) (rest := []) ⟨hx, hb, hml, hown, htg⟩ (c_X5_areNumbersSound l hfl g t0 th ts tg td tr  H.size) ⟨(qB htg k351 k51 k348 ok_X5_areNumbersSound rfl rfl ⟨Nat.le_of_ble_eq_true rfl, Nat.le_of_ble_eq_true rfl⟩), htg _ k349, htg _ k350⟩ ⟨(q_pre [.ref t0] hPc hDc hK hS hT hFc).1, va_recv hK hP (ci := 6) (q0 := 1) rfl rfl, (q_pre [.ref t0] hPc hDc hK hS hT hFc).2⟩ rfl rfl hl.1 rfl (lv_room (Nat.le_of_ble_eq_true rfl)) dX7_isSound_4 ⟨Nat.le_of_ble_eq_true rfl, Nat.le_of_ble_eq_true rfl⟩) hP hD hS hFc [1] [0, 2, 3, 4, 5, 6, 7, 8] rfl rfl (by decide) (by decide) (fun r9 u9 H locs hw hP hD hS => ?_)
  try dsimp only at hw
  rcases hw with ⟨rfl, rfl⟩
  have hP : va_P g.1 CLS [(x0, .inr (8, [.ref t0, .ref u0, .ref k0])), (ts, .inr (5, [.ref th, .ref tw, .int 0])), (k0, .inr (7, [.ref kr, .int 0])), (u0, .inr (6, [.ref uh, .ref us, .ref ug, .ref ud, .int 0, .ref ur, .int (-1), .int 0, .int 0, .int 0, .long 0, .int 0, .int 0])), (us, .inr (5, [.ref uh, .ref uw, .int 0])), (ug, .inr (3, [.ref uc])), (uc, .inl (g.2.1 0, 64, .inl fu)), (ud, .inr (2, [.ref uv, .int 0, .int 0])), (t0, .inr (6, [.ref th, .ref ts, .ref tg, .ref td, .int 0, .ref tr, .int (-1), .int 0, .int 0, .int 0, .long 0, .int 0, .int 0]))] H := hP
  have hD : va_D A [(x0, .inr (8, [.ref t0, .ref u0, .ref k0])), (ts, .inr (5, [.ref th, .ref tw, .int 0])), (k0, .inr (7, [.ref kr, .int 0])), (u0, .inr (6, [.ref uh, .ref us, .ref ug, .ref ud, .int 0, .ref ur, .int (-1), .int 0, .int 0, .int 0, .long 0, .int 0, .int 0])), (us, .inr (5, [.ref uh, .ref uw, .int 0])), (ug, .inr (3, [.ref uc])), (uc, .inl (g.2.1 0, 64, .inl fu)), (ud, .inr (2, [.ref uv, .int 0, .int 0])), (t0, .inr (6, [.ref th, .ref ts, .ref tg, .ref td, .int 0, .ref tr, .int (-1), .int 0, .int 0, .int 0, .long 0, .int 0, .int 0]))] := hD
  refine W.widen (k := 0) (n := 0) (Nat.le_of_ble_eq_true rfl) (Nat.le_of_ble_eq_true rfl) ?_
  refine lv_if_eq (tgt := 33) hx hb dX7_isSound_7 (by decide) (fun c_1 => absurd c_1 (by decide)) (fun c_1 => ?_)
  refine lv_aload_n hx hb dX7_isSound_10 rfl (lv_at hl 0 rfl) ?_
  refine va_get (D := g.1) (ci := 8) (v := .ref t0) (C := RX7) (T := TX7) (N := 3) hx hb htg inG_X7 hown hK hP 0 rfl rfl 0 (by decide) (htg _ k310) (fun _ h9 => h9) rfl dX7_isSound_11 ?_
  refine va_get (D := g.1) (ci := 6) (v := .ref ts) (C := RX5) (T := TX5) (N := 13) hx hb htg inG_X5 hown hK hP 8 rfl rfl 1 (by decide) (htg _ k250) (fun _ h9 => h9) rfl dX7_isSound_14 ?_
  have hPc := hP.sub (ws' := [(ts, .inr (5, [.ref th, .ref tw, .int 0]))]) [1] rfl
  have hDc := hD.sub (ws' := [(ts, .inr (5, [.ref th, .ref tw, .int 0]))]) [1] (by decide) rfl
  have hFc := va_free (wc := [(ts, .inr (5, [.ref th, .ref tw, .int 0]))]) hD hS hA [1] rfl
  refine q_ci (wr := [(x0, .inr (8, [.ref t0, .ref u0, .ref k0])), (k0, .inr (7, [.ref kr, .int 0])), (u0, .inr (6, [.ref uh, .ref us, .ref ug, .ref ud, .int 0, .ref ur, .int (-1), .int 0, .int 0, .int 0, .long 0, .int 0, .int 0])), (us, .inr (5, [.ref uh, .ref uw, .int 0])), (ug, .inr (3, [.ref uc])), (uc, .inl (g.2.1 0, 64, .inl fu)), (ud, .inr (2, [.ref uv, .int 0, .int 0])), (t0, .inr (6, [.ref th, .ref ts, .ref tg, .ref td, .int 0, .ref tr, .int (-1), .int 0, .int 0, .int 0, .long 0, .int 0, .int 0]))]) (va_runV (As := []) (rest := []) ⟨hx, hb, hml, hown, htg⟩ (c_X4_areMinded l hfl g ts th tw  H.size) ⟨(qB htg k364 k52 k361 ok_X4_areMinded rfl rfl ⟨Nat.le_of_ble_eq_true rfl, Nat.le_of_ble_eq_true rfl⟩), htg _ k362, htg _ k363⟩ ⟨(q_pre [.ref ts] hPc hDc hK hS hT hFc).1, va_recv hK hP (ci := 5) (q0 := 1) rfl rfl, (q_pre [.ref ts] hPc hDc hK hS hT hFc).2⟩ rfl rfl hl.1 rfl (lv_room (Nat.le_of_ble_eq_true rfl)) dX7_isSound_17 ⟨Nat.le_of_ble_eq_true rfl, Nat.le_of_ble_eq_true rfl⟩) hP hD hS hFc [1] [0, 2, 3, 4, 5, 6, 7, 8] rfl rfl (by decide) (by decide) (fun r9 u9 H locs hw hP hD hS => ?_)
  try dsimp only at hw
  rcases hw with ⟨rfl, rfl⟩
  have hP : va_P g.1 CLS [(x0, .inr (8, [.ref t0, .ref u0, .ref k0])), (k0, .inr (7, [.ref kr, .int 0])), (u0, .inr (6, [.ref uh, .ref us, .ref ug, .ref ud, .int 0, .ref ur, .int (-1), .int 0, .int 0, .int 0, .long 0, .int 0, .int 0])), (us, .inr (5, [.ref uh, .ref uw, .int 0])), (ug, .inr (3, [.ref uc])), (uc, .inl (g.2.1 0, 64, .inl fu)), (ud, .inr (2, [.ref uv, .int 0, .int 0])), (t0, .inr (6, [.ref th, .ref ts, .ref tg, .ref td, .int 0, .ref tr, .int (-1), .int 0, .int 0, .int 0, .long 0, .int 0, .int 0])), (ts, .inr (5, [.ref th, .ref tw, .int 0]))] H := hP
  have hD : va_D A [(x0, .inr (8, [.ref t0, .ref u0, .ref k0])), (k0, .inr (7, [.ref kr, .int 0])), (u0, .inr (6, [.ref uh, .ref us, .ref ug, .ref ud, .int 0, .ref ur, .int (-1), .int 0, .int 0, .int 0, .long 0, .int 0, .int 0])), (us, .inr (5, [.ref uh, .ref uw, .int 0])), (ug, .inr (3, [.ref uc])), (uc, .inl (g.2.1 0, 64, .inl fu)), (ud, .inr (2, [.ref uv, .int 0, .int 0])), (t0, .inr (6, [.ref th, .ref ts, .ref tg, .ref td, .int 0, .ref tr, .int (-1), .int 0, .int 0, .int 0, .long 0, .int 0, .int 0])), (ts, .inr (5, [.ref th, .ref tw, .int 0]))] := hD
  refine W.widen (k := 0) (n := 0) (Nat.le_of_ble_eq_true rfl) (Nat.le_of_ble_eq_true rfl) ?_
  refine lv_if_eq (tgt := 33) hx hb dX7_isSound_20 (by decide) (fun c_2 => absurd c_2 (by decide)) (fun c_2 => ?_)
  refine lv_aload_n hx hb dX7_isSound_23 rfl (lv_at hl 0 rfl) ?_
  refine va_get (D := g.1) (ci := 8) (v := .ref t0) (C := RX7) (T := TX7) (N := 3) hx hb htg inG_X7 hown hK hP 0 rfl rfl 0 (by decide) (htg _ k310) (fun _ h9 => h9) rfl dX7_isSound_24 ?_
  have hPc := hP.sub (ws' := [(t0, .inr (6, [.ref th, .ref ts, .ref tg, .ref td, .int 0, .ref tr, .int (-1), .int 0, .int 0, .int 0, .long 0, .int 0, .int 0]))]) [7] rfl
  have hDc := hD.sub (ws' := [(t0, .inr (6, [.ref th, .ref ts, .ref tg, .ref td, .int 0, .ref tr, .int (-1), .int 0, .int 0, .int 0, .long 0, .int 0, .int 0]))]) [7] (by decide) rfl
  have hFc := va_free (wc := [(t0, .inr (6, [.ref th, .ref ts, .ref tg, .ref td, .int 0, .ref tr, .int (-1), .int 0, .int 0, .int 0, .long 0, .int 0, .int 0]))]) hD hS hA [7] rfl
  refine q_ci (wr := [(x0, .inr (8, [.ref t0, .ref u0, .ref k0])), (k0, .inr (7, [.ref kr, .int 0])), (u0, .inr (6, [.ref uh, .ref us, .ref ug, .ref ud, .int 0, .ref ur, .int (-1), .int 0, .int 0, .int 0, .long 0, .int 0, .int 0])), (us, .inr (5, [.ref uh, .ref uw, .int 0])), (ug, .inr (3, [.ref uc])), (uc, .inl (g.2.1 0, 64, .inl fu)), (ud, .inr (2, [.ref uv, .int 0, .int 0])), (ts, .inr (5, [.ref th, .ref tw, .int 0]))]) (va_runV (As := []) (rest := []) ⟨hx, hb, hml, hown, htg⟩ (c_X5_areCellsSingle l hfl g t0 th ts tg td tr  H.size) ⟨(qB htg k368 k51 k365 ok_X5_areCellsSingle rfl rfl ⟨Nat.le_of_ble_eq_true rfl, Nat.le_of_ble_eq_true rfl⟩), htg _ k366, htg _ k367⟩ ⟨(q_pre [.ref t0] hPc hDc hK hS hT hFc).1, va_recv hK hP (ci := 6) (q0 := 7) rfl rfl, (q_pre [.ref t0] hPc hDc hK hS hT hFc).2⟩ rfl rfl hl.1 rfl (lv_room (Nat.le_of_ble_eq_true rfl)) dX7_isSound_27 ⟨Nat.le_of_ble_eq_true rfl, Nat.le_of_ble_eq_true rfl⟩) hP hD hS hFc [7] [0, 1, 2, 3, 4, 5, 6, 8] rfl rfl (by decide) (by decide) (fun r9 u9 H locs hw hP hD hS => ?_)
  try dsimp only at hw
  rcases hw with ⟨rfl, rfl⟩
  have hP : va_P g.1 CLS [(x0, .inr (8, [.ref t0, .ref u0, .ref k0])), (k0, .inr (7, [.ref kr, .int 0])), (u0, .inr (6, [.ref uh, .ref us, .ref ug, .ref ud, .int 0, .ref ur, .int (-1), .int 0, .int 0, .int 0, .long 0, .int 0, .int 0])), (us, .inr (5, [.ref uh, .ref uw, .int 0])), (ug, .inr (3, [.ref uc])), (uc, .inl (g.2.1 0, 64, .inl fu)), (ud, .inr (2, [.ref uv, .int 0, .int 0])), (ts, .inr (5, [.ref th, .ref tw, .int 0])), (t0, .inr (6, [.ref th, .ref ts, .ref tg, .ref td, .int 0, .ref tr, .int (-1), .int 0, .int 0, .int 0, .long 0, .int 0, .int 0]))] H := hP
  have hD : va_D A [(x0, .inr (8, [.ref t0, .ref u0, .ref k0])), (k0, .inr (7, [.ref kr, .int 0])), (u0, .inr (6, [.ref uh, .ref us, .ref ug, .ref ud, .int 0, .ref ur, .int (-1), .int 0, .int 0, .int 0, .long 0, .int 0, .int 0])), (us, .inr (5, [.ref uh, .ref uw, .int 0])), (ug, .inr (3, [.ref uc])), (uc, .inl (g.2.1 0, 64, .inl fu)), (ud, .inr (2, [.ref uv, .int 0, .int 0])), (ts, .inr (5, [.ref th, .ref tw, .int 0])), (t0, .inr (6, [.ref th, .ref ts, .ref tg, .ref td, .int 0, .ref tr, .int (-1), .int 0, .int 0, .int 0, .long 0, .int 0, .int 0]))] := hD
  refine W.widen (k := 0) (n := 0) (Nat.le_of_ble_eq_true rfl) (Nat.le_of_ble_eq_true rfl) ?_
  refine lv_if_ne (tgt := 35) hx hb dX7_isSound_30 (by decide) (fun c_3 => ?_) (fun c_3 => absurd c_3 (by decide))
  refine lv_aload_n hx hb dX7_isSound_35 rfl (lv_at hl 0 rfl) ?_
  refine va_get (D := g.1) (ci := 8) (v := .ref k0) (C := RX7) (T := TX7) (N := 3) hx hb htg inG_X7 hown hK hP 0 rfl rfl 2 (by decide) (htg _ k312) (fun _ h9 => h9) rfl dX7_isSound_36 ?_
  refine lv_aload_n hx hb dX7_isSound_39 rfl (lv_at hl 0 rfl) ?_
  refine va_get (D := g.1) (ci := 8) (v := .ref u0) (C := RX7) (T := TX7) (N := 3) hx hb htg inG_X7 hown hK hP 0 rfl rfl 1 (by decide) (htg _ k311) (fun _ h9 => h9) rfl dX7_isSound_40 ?_
  refine lv_iconst (v := (-1)) hx hb dX7_isSound_43 (by decide) ?_
  refine lv_iconst (v := 0) hx hb dX7_isSound_44 (by decide) ?_
  have hPc := hP.sub (ws' := [(k0, .inr (7, [.ref kr, .int 0])), (u0, .inr (6, [.ref uh, .ref us, .ref ug, .ref ud, .int 0, .ref ur, .int (-1), .int 0, .int 0, .int 0, .long 0, .int 0, .int 0])), (us, .inr (5, [.ref uh, .ref uw, .int 0])), (ug, .inr (3, [.ref uc])), (uc, .inl (g.2.1 0, 64, .inl fu)), (ud, .inr (2, [.ref uv, .int 0, .int 0]))]) [1, 2, 3, 4, 5, 6] rfl
  have hDc := hD.sub (ws' := [(k0, .inr (7, [.ref kr, .int 0])), (u0, .inr (6, [.ref uh, .ref us, .ref ug, .ref ud, .int 0, .ref ur, .int (-1), .int 0, .int 0, .int 0, .long 0, .int 0, .int 0])), (us, .inr (5, [.ref uh, .ref uw, .int 0])), (ug, .inr (3, [.ref uc])), (uc, .inl (g.2.1 0, 64, .inl fu)), (ud, .inr (2, [.ref uv, .int 0, .int 0]))]) [1, 2, 3, 4, 5, 6] (by decide) rfl
  have hFc := va_free (wc := [(k0, .inr (7, [.ref kr, .int 0])), (u0, .inr (6, [.ref uh, .ref us, .ref ug, .ref ud, .int 0, .ref ur, .int (-1), .int 0, .int 0, .int 0, .long 0, .int 0, .int 0])), (us, .inr (5, [.ref uh, .ref uw, .int 0])), (ug, .inr (3, [.ref uc])), (uc, .inl (g.2.1 0, 64, .inl fu)), (ud, .inr (2, [.ref uv, .int 0, .int 0]))]) hD hS hA [1, 2, 3, 4, 5, 6] rfl
  refine q_cv (wr := [(x0, .inr (8, [.ref t0, .ref u0, .ref k0])), (ts, .inr (5, [.ref th, .ref tw, .int 0])), (t0, .inr (6, [.ref th, .ref ts, .ref tg, .ref td, .int 0, .ref tr, .int (-1), .int 0, .int 0, .int 0, .long 0, .int 0, .int 0]))]) (va_runV (As := [.ref u0, .int (-1), .int 0]) (rest := []) ⟨hx, hb, hml, hown, htg⟩ (c_X6_playOn l hfl g k0 kr u0 uh us ug ud ur uw uc uv fu (-1) 0  H.size) ⟨(qB htg k376 k56 k373 ok_X6_playOn rfl rfl ⟨Nat.le_of_ble_eq_true rfl, Nat.le_of_ble_eq_true rfl⟩), htg _ k374, htg _ k375⟩ ⟨(q_pre [.ref k0, .ref u0, .int (-1), .int 0] hPc hDc hK hS hT hFc).1, va_recv hK hP (ci := 7) (q0 := 1) rfl rfl, (q_pre [.ref k0, .ref u0, .int (-1), .int 0] hPc hDc hK hS hT hFc).2⟩ rfl rfl hl.1 rfl (lv_room (Nat.le_of_ble_eq_true rfl)) dX7_isSound_45 ⟨Nat.le_of_ble_eq_true rfl, Nat.le_of_ble_eq_true rfl⟩) hP hD hS hFc [1, 2, 3, 4, 5, 6] [0, 7, 8] rfl rfl (by decide) (by decide) (fun u9 H locs hw hP hD hS => ?_)
  try dsimp only at hw
  rcases hw with rfl
  have hP : va_P g.1 CLS [(x0, .inr (8, [.ref t0, .ref u0, .ref k0])), (ts, .inr (5, [.ref th, .ref tw, .int 0])), (t0, .inr (6, [.ref th, .ref ts, .ref tg, .ref td, .int 0, .ref tr, .int (-1), .int 0, .int 0, .int 0, .long 0, .int 0, .int 0])), (k0, .inr (7, [.ref kr, .int 0])), (u0, .inr (6, [.ref uh, .ref us, .ref ug, .ref ud, .int 0, .ref ur, .int (-1), .int 0, .int 0, .int 0, .long 0, .int 0, .int 0]))] H := hP
  have hD : va_D A [(x0, .inr (8, [.ref t0, .ref u0, .ref k0])), (ts, .inr (5, [.ref th, .ref tw, .int 0])), (t0, .inr (6, [.ref th, .ref ts, .ref tg, .ref td, .int 0, .ref tr, .int (-1), .int 0, .int 0, .int 0, .long 0, .int 0, .int 0])), (k0, .inr (7, [.ref kr, .int 0])), (u0, .inr (6, [.ref uh, .ref us, .ref ug, .ref ud, .int 0, .ref ur, .int (-1), .int 0, .int 0, .int 0, .long 0, .int 0, .int 0]))] := hD
  refine W.widen (k := 0) (n := 0) (Nat.le_of_ble_eq_true rfl) (Nat.le_of_ble_eq_true rfl) ?_
  refine lv_aload_n hx hb dX7_isSound_48 rfl (lv_at hl 0 rfl) ?_
  refine va_get (D := g.1) (ci := 8) (v := .ref t0) (C := RX7) (T := TX7) (N := 3) hx hb htg inG_X7 hown hK hP 0 rfl rfl 0 (by decide) (htg _ k310) (fun _ h9 => h9) rfl dX7_isSound_49 ?_
  refine lv_aload_n hx hb dX7_isSound_52 rfl (lv_at hl 0 rfl) ?_
  refine va_get (D := g.1) (ci := 8) (v := .ref u0) (C := RX7) (T := TX7) (N := 3) hx hb htg inG_X7 hown hK hP 0 rfl rfl 1 (by decide) (htg _ k311) (fun _ h9 => h9) rfl dX7_isSound_53 ?_
  have hPc := hP.sub (ws' := [(t0, .inr (6, [.ref th, .ref ts, .ref tg, .ref td, .int 0, .ref tr, .int (-1), .int 0, .int 0, .int 0, .long 0, .int 0, .int 0])), (u0, .inr (6, [.ref uh, .ref us, .ref ug, .ref ud, .int 0, .ref ur, .int (-1), .int 0, .int 0, .int 0, .long 0, .int 0, .int 0]))]) [2, 4] rfl
  have hDc := hD.sub (ws' := [(t0, .inr (6, [.ref th, .ref ts, .ref tg, .ref td, .int 0, .ref tr, .int (-1), .int 0, .int 0, .int 0, .long 0, .int 0, .int 0])), (u0, .inr (6, [.ref uh, .ref us, .ref ug, .ref ud, .int 0, .ref ur, .int (-1), .int 0, .int 0, .int 0, .long 0, .int 0, .int 0]))]) [2, 4] (by decide) rfl
  have hFc := va_free (wc := [(t0, .inr (6, [.ref th, .ref ts, .ref tg, .ref td, .int 0, .ref tr, .int (-1), .int 0, .int 0, .int 0, .long 0, .int 0, .int 0])), (u0, .inr (6, [.ref uh, .ref us, .ref ug, .ref ud, .int 0, .ref ur, .int (-1), .int 0, .int 0, .int 0, .long 0, .int 0, .int 0]))]) hD hS hA [2, 4] rfl
  refine q_ci (wr := [(x0, .inr (8, [.ref t0, .ref u0, .ref k0])), (ts, .inr (5, [.ref th, .ref tw, .int 0])), (k0, .inr (7, [.ref kr, .int 0]))]) (va_runV (As := [.ref u0]) (rest := []) ⟨hx, hb, hml, hown, htg⟩ (c_X5_hasLivesOf l hfl g t0 th ts tg td tr u0 uh us ug ud ur  H.size) ⟨(qB htg k813 k51 k810 ok_X5_hasLivesOf rfl rfl ⟨Nat.le_of_ble_eq_true rfl, Nat.le_of_ble_eq_true rfl⟩), htg _ k811, htg _ k812⟩ ⟨(q_pre [.ref t0, .ref u0] hPc hDc hK hS hT hFc).1, va_recv hK hP (ci := 6) (q0 := 2) rfl rfl, (q_pre [.ref t0, .ref u0] hPc hDc hK hS hT hFc).2⟩ rfl rfl hl.1 rfl (lv_room (Nat.le_of_ble_eq_true rfl)) dX7_isSound_56 ⟨Nat.le_of_ble_eq_true rfl, Nat.le_of_ble_eq_true rfl⟩) hP hD hS hFc [2, 4] [0, 1, 3] rfl rfl (by decide) (by decide) (fun r9 u9 H locs hw hP hD hS => ?_)
  try dsimp only at hw
  rcases hw with ⟨rfl, rfl⟩
  have hP : va_P g.1 CLS [(x0, .inr (8, [.ref t0, .ref u0, .ref k0])), (ts, .inr (5, [.ref th, .ref tw, .int 0])), (k0, .inr (7, [.ref kr, .int 0])), (t0, .inr (6, [.ref th, .ref ts, .ref tg, .ref td, .int 0, .ref tr, .int (-1), .int 0, .int 0, .int 0, .long 0, .int 0, .int 0])), (u0, .inr (6, [.ref uh, .ref us, .ref ug, .ref ud, .int 0, .ref ur, .int (-1), .int 0, .int 0, .int 0, .long 0, .int 0, .int 0]))] H := hP
  have hD : va_D A [(x0, .inr (8, [.ref t0, .ref u0, .ref k0])), (ts, .inr (5, [.ref th, .ref tw, .int 0])), (k0, .inr (7, [.ref kr, .int 0])), (t0, .inr (6, [.ref th, .ref ts, .ref tg, .ref td, .int 0, .ref tr, .int (-1), .int 0, .int 0, .int 0, .long 0, .int 0, .int 0])), (u0, .inr (6, [.ref uh, .ref us, .ref ug, .ref ud, .int 0, .ref ur, .int (-1), .int 0, .int 0, .int 0, .long 0, .int 0, .int 0]))] := hD
  refine W.widen (k := 0) (n := 0) (Nat.le_of_ble_eq_true rfl) (Nat.le_of_ble_eq_true rfl) ?_
  have hP9 := hP.sub (ws' := []) [] rfl
  have hD9 := hD.sub (ws' := []) [] (by decide) rfl
  refine W.widen (k := 0) (n := 0) (Nat.le_of_ble_eq_true rfl) (Nat.le_of_ble_eq_true rfl) ?_
  exact W.zret (v := 1) hx hb hr rfl (fun t ht hW => ⟨⟨1, [], rfl, ⟨rfl, rfl⟩, by rw [ht]; exact hP9, va_K.moved hW.alike hK, hD9⟩, hS.F ht⟩) hS.2.2 dX7_isSound_59

set_option maxHeartbeats 4000000 in
set_option maxRecDepth 100000 in
theorem c_X7_init (l : Launch) (hfl : l.stackTraces = false) (g : GP) (x0 : Nat)  : CV l yX7_init (wG yX7_init cX7_init 1 (Option.none : Option Jvm.ClassFile.FieldType)) (LV 7 150 1400) g [.ref x0] ([(x0, .inr (8, [.null, .null, .null]))]) (fun (u : va_W) => ∃ (t0 : Nat) (u0 : Nat) (k0 : Nat) (th : Nat) (ts : Nat) (tg : Nat) (td : Nat) (tr : Nat) (tw : Nat) (tc : Nat) (tv : Nat) (z0 : Nat) (z1 : Nat) (z2 : Nat) (z3 : Nat) (z4 : Nat) (z5 : Nat) (uh : Nat) (us : Nat) (ug : Nat) (ud : Nat) (ur : Nat) (uw : Nat) (uc : Nat) (uv : Nat) (kr : Nat) (fh : Nat → Option Nat) (fc : Nat → Int32) (fu : Nat → Int32), (fh 0 = some z0) ∧ (∀ j : Nat, j < 64 → fc j = 46) ∧ u = [(x0, .inr (8, [.ref t0, .ref u0, .ref k0])), (t0, .inr (6, [.ref th, .ref ts, .ref tg, .ref td, .int 0, .ref tr, .int (-1), .int 0, .int 0, .int 0, .long 0, .int 0, .int 0])), (th, .inl (g.2.1 3, 6, .inr (.inr (.inr (.inr fh))))), (z0, .inr (4, [.int 0, .int 0, .int 0, .int 0, .int 0, .int 0, .int 0, .int 0, .int 0, .int 0, .int 0, .int 0, .ref z1, .ref z2, .ref z3, .ref z4, .ref z5])), (z1, .inl (g.2.1 1, 5, .inl (fun _ => 0))), (z2, .inl (g.2.1 1, 5, .inl (fun _ => 0))), (z3, .inl (g.2.1 2, 5, .inl (fun _ => 0))), (z4, .inl (g.2.1 1, 6, .inl (fun _ => 0))), (z5, .inl (g.2.1 2, 6, .inl (fun _ => 0))), (ts, .inr (5, [.ref th, .ref tw, .int 0])), (tg, .inr (3, [.ref tc])), (tc, .inl (g.2.1 0, 64, .inl fc)), (td, .inr (2, [.ref tv, .int 0, .int 0])), (tv, .inl (g.2.1 1, 16, .inl (fun _ => 0))), (u0, .inr (6, [.ref uh, .ref us, .ref ug, .ref ud, .int 0, .ref ur, .int (-1), .int 0, .int 0, .int 0, .long 0, .int 0, .int 0])), (us, .inr (5, [.ref uh, .ref uw, .int 0])), (ug, .inr (3, [.ref uc])), (uc, .inl (g.2.1 0, 64, .inl fu)), (ud, .inr (2, [.ref uv, .int 0, .int 0])), (k0, .inr (7, [.ref kr, .int 0])), (kr, .inl (g.2.1 1, 128, .inl (fun _ => 0)))]) := by
  intro sz
  refine Met.ofW (cc := cX7_init) (maxL := 1) (ret := (Option.none : Option Jvm.ClassFile.FieldType)) (by decide) rfl ?_
  intro p e s m args below meth c s₁ B hml hv
  obtain ⟨rfl, hsz, hP, hK, hD0, hT0⟩ := hv
  have hx := B.exec
  have hb := B.bytes
  have hr := B.returns
  have hts := atoms_spec (ws := (wG yX7_init cX7_init 1 (Option.none : Option Jvm.ClassFile.FieldType))) B.pre
  have htg : ∀ w ∈ G9, w.before _ s = true := fun w h => hts w (List.mem_cons_of_mem _ h)
  have hown : s.vm.findClass "HeroTable" = some m.cls := findClass_of_methodNamed B.named
  have hlocks := B.notSynchronized
  have hin : meth.name = "<init>" := (name_of_methodNamed B.named B.method).1
  subst hsz
  have hD := hD0.self (sz := s.heap.size)
  have hT := hT0
  clear hT0
  generalize hAe : va_A [(x0, .inr (8, [.null, .null, .null]))] s.heap.size = A at hD hT ⊢
  have hA : ∀ q : Nat, s.heap.size ≤ q → A q := fun q h => by rw [← hAe]; exact Or.inr h
  obtain ⟨H, hH0⟩ : ∃ H, H = s.heap := ⟨_, rfl⟩
  have hS : va_S A s.heap H [] := by rw [hH0]; exact va_S.rf
  have hP : va_P g.1 CLS [(x0, .inr (8, [.null, .null, .null]))] H := by rw [hH0]; exact hP
  rw [← hH0]
  have hl := lv_entry ([.ref x0]) (n := 1) (Nat.le_of_ble_eq_true rfl)
  rw [lg_entry_eq]
  generalize (lg_sl ([.ref x0]) ++ List.replicate (1 - (lg_sl ([.ref x0])).length) Slot.unset).toArray = ls at hl ⊢
  have hl : lv_has ls 1 [(0, .ref x0)] := hl
  refine lv_aload_n hx hb dX7_init_0 rfl (lv_at hl 0 rfl) ?_
  refine W.objInit hx hb hown (htg _ k97) (htg _ k98) (htg _ k99) rfl (by rw [hml]; exact hl.1) rfl dX7_init_1 (Nat.le_of_ble_eq_true rfl) (Nat.le_of_ble_eq_true rfl) ?_
  refine W.eq (g2 := F0 m 4 ls []) rfl ?_
  refine lv_aload_n hx hb dX7_init_4 rfl (lv_at hl 0 rfl) ?_
  refine va_new (ci := 6) (fs := [.null, .null, .null, .null, .int 0, .null, .int 0, .int 0, .int 0, .int 0, .long 0, .int 0, .int 0]) (C := RX5) (T := TX5) (N := 13) hx hb htg inG_X5 tyX5 tyX5_ok hown (htg _ k100) (htg _ k101) (htg _ k51) hK hP hD hS hA rfl (by decide) (Nat.le_of_ble_eq_true rfl) (Nat.le_of_ble_eq_true rfl) dX7_init_5 (fun q_1 H hP hD hS => ?_)
  have hP : va_P g.1 CLS [(x0, .inr (8, [.null, .null, .null])), (q_1, .inr (6, [.null, .null, .null, .null, .int 0, .null, .int 0, .int 0, .int 0, .int 0, .long 0, .int 0, .int 0]))] H := hP
  have hD : va_D A [(x0, .inr (8, [.null, .null, .null])), (q_1, .inr (6, [.null, .null, .null, .null, .int 0, .null, .int 0, .int 0, .int 0, .int 0, .long 0, .int 0, .int 0]))] := hD
  refine W.widen (k := 1) (n := 13) (Nat.le_of_ble_eq_true rfl) (Nat.le_of_ble_eq_true rfl) ?_
  refine lv_dup hx hb dX7_init_8 rfl ?_
  have hPc := hP.sub (ws' := [(q_1, .inr (6, [.null, .null, .null, .null, .int 0, .null, .int 0, .int 0, .int 0, .int 0, .long 0, .int 0, .int 0]))]) [1] rfl
  have hDc := hD.sub (ws' := [(q_1, .inr (6, [.null, .null, .null, .null, .int 0, .null, .int 0, .int 0, .int 0, .int 0, .long 0, .int 0, .int 0]))]) [1] (by decide) rfl
  have hFc := va_free (wc := [(q_1, .inr (6, [.null, .null, .null, .null, .int 0, .null, .int 0, .int 0, .int 0, .int 0, .long 0, .int 0, .int 0]))]) hD hS hA [1] rfl
  refine q_cv (wr := [(x0, .inr (8, [.null, .null, .null]))]) (va_runI (As := []) (rest := [.ref q_1, .ref x0]) ⟨hx, hb, hml, hown, htg⟩ (c_X5_init l hfl g q_1  H.size) ⟨(qB htg k104 k51 k102 ok_X5_init rfl rfl ⟨Nat.le_of_ble_eq_true rfl, Nat.le_of_ble_eq_true rfl⟩), rfl, htg _ k103⟩ (q_pre [.ref q_1] hPc hDc hK hS hT hFc) rfl rfl hl.1 rfl (lv_room (Nat.le_of_ble_eq_true rfl)) dX7_init_9 ⟨Nat.le_of_ble_eq_true rfl, Nat.le_of_ble_eq_true rfl⟩) hP hD hS hFc [1] [0] rfl rfl (by decide) (by decide) (fun u9 H locs hw hP hD hS => ?_)
  try dsimp only at hw
  rcases hw with ⟨v_2, v_3, v_4, v_5, v_6, v_7, v_8, v_9, v_10, v_11, v_12, v_13, v_14, v_15, f_16, f_17, c_18, c_19, rfl⟩
  have hP : va_P g.1 CLS [(x0, .inr (8, [.null, .null, .null])), (q_1, .inr (6, [.ref v_2, .ref v_3, .ref v_4, .ref v_5, .int 0, .ref v_6, .int (-1), .int 0, .int 0, .int 0, .long 0, .int 0, .int 0])), (v_2, .inl (g.2.1 3, 6, .inr (.inr (.inr (.inr f_16))))), (v_10, .inr (4, [.int 0, .int 0, .int 0, .int 0, .int 0, .int 0, .int 0, .int 0, .int 0, .int 0, .int 0, .int 0, .ref v_11, .ref v_12, .ref v_13, .ref v_14, .ref v_15])), (v_11, .inl (g.2.1 1, 5, .inl (fun _ => 0))), (v_12, .inl (g.2.1 1, 5, .inl (fun _ => 0))), (v_13, .inl (g.2.1 2, 5, .inl (fun _ => 0))), (v_14, .inl (g.2.1 1, 6, .inl (fun _ => 0))), (v_15, .inl (g.2.1 2, 6, .inl (fun _ => 0))), (v_3, .inr (5, [.ref v_2, .ref v_7, .int 0])), (v_4, .inr (3, [.ref v_8])), (v_8, .inl (g.2.1 0, 64, .inl f_17)), (v_5, .inr (2, [.ref v_9, .int 0, .int 0])), (v_9, .inl (g.2.1 1, 16, .inl (fun _ => 0)))] H := hP
  have hD : va_D A [(x0, .inr (8, [.null, .null, .null])), (q_1, .inr (6, [.ref v_2, .ref v_3, .ref v_4, .ref v_5, .int 0, .ref v_6, .int (-1), .int 0, .int 0, .int 0, .long 0, .int 0, .int 0])), (v_2, .inl (g.2.1 3, 6, .inr (.inr (.inr (.inr f_16))))), (v_10, .inr (4, [.int 0, .int 0, .int 0, .int 0, .int 0, .int 0, .int 0, .int 0, .int 0, .int 0, .int 0, .int 0, .ref v_11, .ref v_12, .ref v_13, .ref v_14, .ref v_15])), (v_11, .inl (g.2.1 1, 5, .inl (fun _ => 0))), (v_12, .inl (g.2.1 1, 5, .inl (fun _ => 0))), (v_13, .inl (g.2.1 2, 5, .inl (fun _ => 0))), (v_14, .inl (g.2.1 1, 6, .inl (fun _ => 0))), (v_15, .inl (g.2.1 2, 6, .inl (fun _ => 0))), (v_3, .inr (5, [.ref v_2, .ref v_7, .int 0])), (v_4, .inr (3, [.ref v_8])), (v_8, .inl (g.2.1 0, 64, .inl f_17)), (v_5, .inr (2, [.ref v_9, .int 0, .int 0])), (v_9, .inl (g.2.1 1, 16, .inl (fun _ => 0)))] := hD
  refine W.widen (k := 61) (n := 513) (Nat.le_of_ble_eq_true rfl) (Nat.le_of_ble_eq_true rfl) ?_
  refine va_putF (D := g.1) (ci := 8) (v := .ref q_1) (ty := (.object "HeroTable$Table")) (C := RX7) (T := TX7) (N := 3) hx hb htg inG_X7 tyX7 tyX7_ok nmX7 hown hK hP hD hS 0 rfl rfl 0 (by decide) (htg _ k310) (fun _ h9 => h9) rfl hin rfl (by decide +kernel) rfl rfl (Nat.le_of_ble_eq_true rfl) dX7_init_12 (fun H locs hP hD hS => ?_)
  have hP : va_P g.1 CLS [(x0, .inr (8, [.ref q_1, .null, .null])), (q_1, .inr (6, [.ref v_2, .ref v_3, .ref v_4, .ref v_5, .int 0, .ref v_6, .int (-1), .int 0, .int 0, .int 0, .long 0, .int 0, .int 0])), (v_2, .inl (g.2.1 3, 6, .inr (.inr (.inr (.inr f_16))))), (v_10, .inr (4, [.int 0, .int 0, .int 0, .int 0, .int 0, .int 0, .int 0, .int 0, .int 0, .int 0, .int 0, .int 0, .ref v_11, .ref v_12, .ref v_13, .ref v_14, .ref v_15])), (v_11, .inl (g.2.1 1, 5, .inl (fun _ => 0))), (v_12, .inl (g.2.1 1, 5, .inl (fun _ => 0))), (v_13, .inl (g.2.1 2, 5, .inl (fun _ => 0))), (v_14, .inl (g.2.1 1, 6, .inl (fun _ => 0))), (v_15, .inl (g.2.1 2, 6, .inl (fun _ => 0))), (v_3, .inr (5, [.ref v_2, .ref v_7, .int 0])), (v_4, .inr (3, [.ref v_8])), (v_8, .inl (g.2.1 0, 64, .inl f_17)), (v_5, .inr (2, [.ref v_9, .int 0, .int 0])), (v_9, .inl (g.2.1 1, 16, .inl (fun _ => 0)))] H := hP
  have hD : va_D A [(x0, .inr (8, [.ref q_1, .null, .null])), (q_1, .inr (6, [.ref v_2, .ref v_3, .ref v_4, .ref v_5, .int 0, .ref v_6, .int (-1), .int 0, .int 0, .int 0, .long 0, .int 0, .int 0])), (v_2, .inl (g.2.1 3, 6, .inr (.inr (.inr (.inr f_16))))), (v_10, .inr (4, [.int 0, .int 0, .int 0, .int 0, .int 0, .int 0, .int 0, .int 0, .int 0, .int 0, .int 0, .int 0, .ref v_11, .ref v_12, .ref v_13, .ref v_14, .ref v_15])), (v_11, .inl (g.2.1 1, 5, .inl (fun _ => 0))), (v_12, .inl (g.2.1 1, 5, .inl (fun _ => 0))), (v_13, .inl (g.2.1 2, 5, .inl (fun _ => 0))), (v_14, .inl (g.2.1 1, 6, .inl (fun _ => 0))), (v_15, .inl (g.2.1 2, 6, .inl (fun _ => 0))), (v_3, .inr (5, [.ref v_2, .ref v_7, .int 0])), (v_4, .inr (3, [.ref v_8])), (v_8, .inl (g.2.1 0, 64, .inl f_17)), (v_5, .inr (2, [.ref v_9, .int 0, .int 0])), (v_9, .inl (g.2.1 1, 16, .inl (fun _ => 0)))] := hD
  refine lv_aload_n hx hb dX7_init_15 rfl (lv_at hl 0 rfl) ?_
  refine va_new (ci := 6) (fs := [.null, .null, .null, .null, .int 0, .null, .int 0, .int 0, .int 0, .int 0, .long 0, .int 0, .int 0]) (C := RX5) (T := TX5) (N := 13) hx hb htg inG_X5 tyX5 tyX5_ok hown (htg _ k100) (htg _ k101) (htg _ k51) hK hP hD hS hA rfl (by decide) (Nat.le_of_ble_eq_true rfl) (Nat.le_of_ble_eq_true rfl) dX7_init_16 (fun q_20 H hP hD hS => ?_)
  have hP : va_P g.1 CLS [(x0, .inr (8, [.ref q_1, .null, .null])), (q_1, .inr (6, [.ref v_2, .ref v_3, .ref v_4, .ref v_5, .int 0, .ref v_6, .int (-1), .int 0, .int 0, .int 0, .long 0, .int 0, .int 0])), (v_2, .inl (g.2.1 3, 6, .inr (.inr (.inr (.inr f_16))))), (v_10, .inr (4, [.int 0, .int 0, .int 0, .int 0, .int 0, .int 0, .int 0, .int 0, .int 0, .int 0, .int 0, .int 0, .ref v_11, .ref v_12, .ref v_13, .ref v_14, .ref v_15])), (v_11, .inl (g.2.1 1, 5, .inl (fun _ => 0))), (v_12, .inl (g.2.1 1, 5, .inl (fun _ => 0))), (v_13, .inl (g.2.1 2, 5, .inl (fun _ => 0))), (v_14, .inl (g.2.1 1, 6, .inl (fun _ => 0))), (v_15, .inl (g.2.1 2, 6, .inl (fun _ => 0))), (v_3, .inr (5, [.ref v_2, .ref v_7, .int 0])), (v_4, .inr (3, [.ref v_8])), (v_8, .inl (g.2.1 0, 64, .inl f_17)), (v_5, .inr (2, [.ref v_9, .int 0, .int 0])), (v_9, .inl (g.2.1 1, 16, .inl (fun _ => 0))), (q_20, .inr (6, [.null, .null, .null, .null, .int 0, .null, .int 0, .int 0, .int 0, .int 0, .long 0, .int 0, .int 0]))] H := hP
  have hD : va_D A [(x0, .inr (8, [.ref q_1, .null, .null])), (q_1, .inr (6, [.ref v_2, .ref v_3, .ref v_4, .ref v_5, .int 0, .ref v_6, .int (-1), .int 0, .int 0, .int 0, .long 0, .int 0, .int 0])), (v_2, .inl (g.2.1 3, 6, .inr (.inr (.inr (.inr f_16))))), (v_10, .inr (4, [.int 0, .int 0, .int 0, .int 0, .int 0, .int 0, .int 0, .int 0, .int 0, .int 0, .int 0, .int 0, .ref v_11, .ref v_12, .ref v_13, .ref v_14, .ref v_15])), (v_11, .inl (g.2.1 1, 5, .inl (fun _ => 0))), (v_12, .inl (g.2.1 1, 5, .inl (fun _ => 0))), (v_13, .inl (g.2.1 2, 5, .inl (fun _ => 0))), (v_14, .inl (g.2.1 1, 6, .inl (fun _ => 0))), (v_15, .inl (g.2.1 2, 6, .inl (fun _ => 0))), (v_3, .inr (5, [.ref v_2, .ref v_7, .int 0])), (v_4, .inr (3, [.ref v_8])), (v_8, .inl (g.2.1 0, 64, .inl f_17)), (v_5, .inr (2, [.ref v_9, .int 0, .int 0])), (v_9, .inl (g.2.1 1, 16, .inl (fun _ => 0))), (q_20, .inr (6, [.null, .null, .null, .null, .int 0, .null, .int 0, .int 0, .int 0, .int 0, .long 0, .int 0, .int 0]))] := hD
  refine W.widen (k := 62) (n := 526) (Nat.le_of_ble_eq_true rfl) (Nat.le_of_ble_eq_true rfl) ?_
  refine lv_dup hx hb dX7_init_19 rfl ?_
  have hPc := hP.sub (ws' := [(q_20, .inr (6, [.null, .null, .null, .null, .int 0, .null, .int 0, .int 0, .int 0, .int 0, .long 0, .int 0, .int 0]))]) [14] rfl
  have hDc := hD.sub (ws' := [(q_20, .inr (6, [.null, .null, .null, .null, .int 0, .null, .int 0, .int 0, .int 0, .int 0, .long 0, .int 0, .int 0]))]) [14] (by decide) rfl
  have hFc := va_free (wc := [(q_20, .inr (6, [.null, .null, .null, .null, .int 0, .null, .int 0, .int 0, .int 0, .int 0, .long 0, .int 0, .int 0]))]) hD hS hA [14] rfl
  refine q_cv (wr := [(x0, .inr (8, [.ref q_1, .null, .null])), (q_1, .inr (6, [.ref v_2, .ref v_3, .ref v_4, .ref v_5, .int 0, .ref v_6, .int (-1), .int 0, .int 0, .int 0, .long 0, .int 0, .int 0])), (v_2, .inl (g.2.1 3, 6, .inr (.inr (.inr (.inr f_16))))), (v_10, .inr (4, [.int 0, .int 0, .int 0, .int 0, .int 0, .int 0, .int 0, .int 0, .int 0, .int 0, .int 0, .int 0, .ref v_11, .ref v_12, .ref v_13, .ref v_14, .ref v_15])), (v_11, .inl (g.2.1 1, 5, .inl (fun _ => 0))), (v_12, .inl (g.2.1 1, 5, .inl (fun _ => 0))), (v_13, .inl (g.2.1 2, 5, .inl (fun _ => 0))), (v_14, .inl (g.2.1 1, 6, .inl (fun _ => 0))), (v_15, .inl (g.2.1 2, 6, .inl (fun _ => 0))), (v_3, .inr (5, [.ref v_2, .ref v_7, .int 0])), (v_4, .inr (3, [.ref v_8])), (v_8, .inl (g.2.1 0, 64, .inl f_17)), (v_5, .inr (2, [.ref v_9, .int 0, .int 0])), (v_9, .inl (g.2.1 1, 16, .inl (fun _ => 0)))]) (va_runI (As := []) (rest := [.ref q_20, .ref x0]) ⟨hx, hb, hml, hown, htg⟩ (c_X5_init l hfl g q_20  H.size) ⟨(qB htg k104 k51 k102 ok_X5_init rfl rfl ⟨Nat.le_of_ble_eq_true rfl, Nat.le_of_ble_eq_true rfl⟩), rfl, htg _ k103⟩ (q_pre [.ref q_20] hPc hDc hK hS hT hFc) rfl rfl hl.1 rfl (lv_room (Nat.le_of_ble_eq_true rfl)) dX7_init_20 ⟨Nat.le_of_ble_eq_true rfl, Nat.le_of_ble_eq_true rfl⟩) hP hD hS hFc [14] [0, 1, 2, 3, 4, 5, 6, 7, 8, 9, 10, 11, 12, 13] rfl rfl (by decide) (by decide) (fun u9 H locs hw hP hD hS => ?_)
  try dsimp only at hw
  rcases hw with ⟨v_21, v_22, v_23, v_24, v_25, v_26, v_27, v_28, v_29, v_30, v_31, v_32, v_33, v_34, f_35, f_36, c_37, c_38, rfl⟩
  have hP : va_P g.1 CLS [(x0, .inr (8, [.ref q_1, .null, .null])), (q_1, .inr (6, [.ref v_2, .ref v_3, .ref v_4, .ref v_5, .int 0, .ref v_6, .int (-1), .int 0, .int 0, .int 0, .long 0, .int 0, .int 0])), (v_2, .inl (g.2.1 3, 6, .inr (.inr (.inr (.inr f_16))))), (v_10, .inr (4, [.int 0, .int 0, .int 0, .int 0, .int 0, .int 0, .int 0, .int 0, .int 0, .int 0, .int 0, .int 0, .ref v_11, .ref v_12, .ref v_13, .ref v_14, .ref v_15])), (v_11, .inl (g.2.1 1, 5, .inl (fun _ => 0))), (v_12, .inl (g.2.1 1, 5, .inl (fun _ => 0))), (v_13, .inl (g.2.1 2, 5, .inl (fun _ => 0))), (v_14, .inl (g.2.1 1, 6, .inl (fun _ => 0))), (v_15, .inl (g.2.1 2, 6, .inl (fun _ => 0))), (v_3, .inr (5, [.ref v_2, .ref v_7, .int 0])), (v_4, .inr (3, [.ref v_8])), (v_8, .inl (g.2.1 0, 64, .inl f_17)), (v_5, .inr (2, [.ref v_9, .int 0, .int 0])), (v_9, .inl (g.2.1 1, 16, .inl (fun _ => 0))), (q_20, .inr (6, [.ref v_21, .ref v_22, .ref v_23, .ref v_24, .int 0, .ref v_25, .int (-1), .int 0, .int 0, .int 0, .long 0, .int 0, .int 0])), (v_21, .inl (g.2.1 3, 6, .inr (.inr (.inr (.inr f_35))))), (v_29, .inr (4, [.int 0, .int 0, .int 0, .int 0, .int 0, .int 0, .int 0, .int 0, .int 0, .int 0, .int 0, .int 0, .ref v_30, .ref v_31, .ref v_32, .ref v_33, .ref v_34])), (v_30, .inl (g.2.1 1, 5, .inl (fun _ => 0))), (v_31, .inl (g.2.1 1, 5, .inl (fun _ => 0))), (v_32, .inl (g.2.1 2, 5, .inl (fun _ => 0))), (v_33, .inl (g.2.1 1, 6, .inl (fun _ => 0))), (v_34, .inl (g.2.1 2, 6, .inl (fun _ => 0))), (v_22, .inr (5, [.ref v_21, .ref v_26, .int 0])), (v_23, .inr (3, [.ref v_27])), (v_27, .inl (g.2.1 0, 64, .inl f_36)), (v_24, .inr (2, [.ref v_28, .int 0, .int 0])), (v_28, .inl (g.2.1 1, 16, .inl (fun _ => 0)))] H := hP
  have hD : va_D A [(x0, .inr (8, [.ref q_1, .null, .null])), (q_1, .inr (6, [.ref v_2, .ref v_3, .ref v_4, .ref v_5, .int 0, .ref v_6, .int (-1), .int 0, .int 0, .int 0, .long 0, .int 0, .int 0])), (v_2, .inl (g.2.1 3, 6, .inr (.inr (.inr (.inr f_16))))), (v_10, .inr (4, [.int 0, .int 0, .int 0, .int 0, .int 0, .int 0, .int 0, .int 0, .int 0, .int 0, .int 0, .int 0, .ref v_11, .ref v_12, .ref v_13, .ref v_14, .ref v_15])), (v_11, .inl (g.2.1 1, 5, .inl (fun _ => 0))), (v_12, .inl (g.2.1 1, 5, .inl (fun _ => 0))), (v_13, .inl (g.2.1 2, 5, .inl (fun _ => 0))), (v_14, .inl (g.2.1 1, 6, .inl (fun _ => 0))), (v_15, .inl (g.2.1 2, 6, .inl (fun _ => 0))), (v_3, .inr (5, [.ref v_2, .ref v_7, .int 0])), (v_4, .inr (3, [.ref v_8])), (v_8, .inl (g.2.1 0, 64, .inl f_17)), (v_5, .inr (2, [.ref v_9, .int 0, .int 0])), (v_9, .inl (g.2.1 1, 16, .inl (fun _ => 0))), (q_20, .inr (6, [.ref v_21, .ref v_22, .ref v_23, .ref v_24, .int 0, .ref v_25, .int (-1), .int 0, .int 0, .int 0, .long 0, .int 0, .int 0])), (v_21, .inl (g.2.1 3, 6, .inr (.inr (.inr (.inr f_35))))), (v_29, .inr (4, [.int 0, .int 0, .int 0, .int 0, .int 0, .int 0, .int 0, .int 0, .int 0, .int 0, .int 0, .int 0, .ref v_30, .ref v_31, .ref v_32, .ref v_33, .ref v_34])), (v_30, .inl (g.2.1 1, 5, .inl (fun _ => 0))), (v_31, .inl (g.2.1 1, 5, .inl (fun _ => 0))), (v_32, .inl (g.2.1 2, 5, .inl (fun _ => 0))), (v_33, .inl (g.2.1 1, 6, .inl (fun _ => 0))), (v_34, .inl (g.2.1 2, 6, .inl (fun _ => 0))), (v_22, .inr (5, [.ref v_21, .ref v_26, .int 0])), (v_23, .inr (3, [.ref v_27])), (v_27, .inl (g.2.1 0, 64, .inl f_36)), (v_24, .inr (2, [.ref v_28, .int 0, .int 0])), (v_28, .inl (g.2.1 1, 16, .inl (fun _ => 0)))] := hD
  refine W.widen (k := 122) (n := 1026) (Nat.le_of_ble_eq_true rfl) (Nat.le_of_ble_eq_true rfl) ?_
  refine va_putF (D := g.1) (ci := 8) (v := .ref q_20) (ty := (.object "HeroTable$Table")) (C := RX7) (T := TX7) (N := 3) hx hb htg inG_X7 tyX7 tyX7_ok nmX7 hown hK hP hD hS 0 rfl rfl 1 (by decide) (htg _ k311) (fun _ h9 => h9) rfl hin rfl (by decide +kernel) rfl rfl (Nat.le_of_ble_eq_true rfl) dX7_init_23 (fun H locs hP hD hS => ?_)
  have hP : va_P g.1 CLS [(x0, .inr (8, [.ref q_1, .ref q_20, .null])), (q_1, .inr (6, [.ref v_2, .ref v_3, .ref v_4, .ref v_5, .int 0, .ref v_6, .int (-1), .int 0, .int 0, .int 0, .long 0, .int 0, .int 0])), (v_2, .inl (g.2.1 3, 6, .inr (.inr (.inr (.inr f_16))))), (v_10, .inr (4, [.int 0, .int 0, .int 0, .int 0, .int 0, .int 0, .int 0, .int 0, .int 0, .int 0, .int 0, .int 0, .ref v_11, .ref v_12, .ref v_13, .ref v_14, .ref v_15])), (v_11, .inl (g.2.1 1, 5, .inl (fun _ => 0))), (v_12, .inl (g.2.1 1, 5, .inl (fun _ => 0))), (v_13, .inl (g.2.1 2, 5, .inl (fun _ => 0))), (v_14, .inl (g.2.1 1, 6, .inl (fun _ => 0))), (v_15, .inl (g.2.1 2, 6, .inl (fun _ => 0))), (v_3, .inr (5, [.ref v_2, .ref v_7, .int 0])), (v_4, .inr (3, [.ref v_8])), (v_8, .inl (g.2.1 0, 64, .inl f_17)), (v_5, .inr (2, [.ref v_9, .int 0, .int 0])), (v_9, .inl (g.2.1 1, 16, .inl (fun _ => 0))), (q_20, .inr (6, [.ref v_21, .ref v_22, .ref v_23, .ref v_24, .int 0, .ref v_25, .int (-1), .int 0, .int 0, .int 0, .long 0, .int 0, .int 0])), (v_21, .inl (g.2.1 3, 6, .inr (.inr (.inr (.inr f_35))))), (v_29, .inr (4, [.int 0, .int 0, .int 0, .int 0, .int 0, .int 0, .int 0, .int 0, .int 0, .int 0, .int 0, .int 0, .ref v_30, .ref v_31, .ref v_32, .ref v_33, .ref v_34])), (v_30, .inl (g.2.1 1, 5, .inl (fun _ => 0))), (v_31, .inl (g.2.1 1, 5, .inl (fun _ => 0))), (v_32, .inl (g.2.1 2, 5, .inl (fun _ => 0))), (v_33, .inl (g.2.1 1, 6, .inl (fun _ => 0))), (v_34, .inl (g.2.1 2, 6, .inl (fun _ => 0))), (v_22, .inr (5, [.ref v_21, .ref v_26, .int 0])), (v_23, .inr (3, [.ref v_27])), (v_27, .inl (g.2.1 0, 64, .inl f_36)), (v_24, .inr (2, [.ref v_28, .int 0, .int 0])), (v_28, .inl (g.2.1 1, 16, .inl (fun _ => 0)))] H := hP
  have hD : va_D A [(x0, .inr (8, [.ref q_1, .ref q_20, .null])), (q_1, .inr (6, [.ref v_2, .ref v_3, .ref v_4, .ref v_5, .int 0, .ref v_6, .int (-1), .int 0, .int 0, .int 0, .long 0, .int 0, .int 0])), (v_2, .inl (g.2.1 3, 6, .inr (.inr (.inr (.inr f_16))))), (v_10, .inr (4, [.int 0, .int 0, .int 0, .int 0, .int 0, .int 0, .int 0, .int 0, .int 0, .int 0, .int 0, .int 0, .ref v_11, .ref v_12, .ref v_13, .ref v_14, .ref v_15])), (v_11, .inl (g.2.1 1, 5, .inl (fun _ => 0))), (v_12, .inl (g.2.1 1, 5, .inl (fun _ => 0))), (v_13, .inl (g.2.1 2, 5, .inl (fun _ => 0))), (v_14, .inl (g.2.1 1, 6, .inl (fun _ => 0))), (v_15, .inl (g.2.1 2, 6, .inl (fun _ => 0))), (v_3, .inr (5, [.ref v_2, .ref v_7, .int 0])), (v_4, .inr (3, [.ref v_8])), (v_8, .inl (g.2.1 0, 64, .inl f_17)), (v_5, .inr (2, [.ref v_9, .int 0, .int 0])), (v_9, .inl (g.2.1 1, 16, .inl (fun _ => 0))), (q_20, .inr (6, [.ref v_21, .ref v_22, .ref v_23, .ref v_24, .int 0, .ref v_25, .int (-1), .int 0, .int 0, .int 0, .long 0, .int 0, .int 0])), (v_21, .inl (g.2.1 3, 6, .inr (.inr (.inr (.inr f_35))))), (v_29, .inr (4, [.int 0, .int 0, .int 0, .int 0, .int 0, .int 0, .int 0, .int 0, .int 0, .int 0, .int 0, .int 0, .ref v_30, .ref v_31, .ref v_32, .ref v_33, .ref v_34])), (v_30, .inl (g.2.1 1, 5, .inl (fun _ => 0))), (v_31, .inl (g.2.1 1, 5, .inl (fun _ => 0))), (v_32, .inl (g.2.1 2, 5, .inl (fun _ => 0))), (v_33, .inl (g.2.1 1, 6, .inl (fun _ => 0))), (v_34, .inl (g.2.1 2, 6, .inl (fun _ => 0))), (v_22, .inr (5, [.ref v_21, .ref v_26, .int 0])), (v_23, .inr (3, [.ref v_27])), (v_27, .inl (g.2.1 0, 64, .inl f_36)), (v_24, .inr (2, [.ref v_28, .int 0, .int 0])), (v_28, .inl (g.2.1 1, 16, .inl (fun _ => 0)))] := hD
  refine lv_aload_n hx hb dX7_init_26 rfl (lv_at hl 0 rfl) ?_
  refine va_new (ci := 7) (fs := [.null, .int 0]) (C := RX6) (T := TX6) (N := 2) hx hb htg inG_X6 tyX6 tyX6_ok hown (htg _ k296) (htg _ k297) (htg _ k56) hK hP hD hS hA rfl (by decide) (Nat.le_of_ble_eq_true rfl) (Nat.le_of_ble_eq_true rfl) dX7_init_27 (fun q_39 H hP hD hS => ?_)
  have hP : va_P g.1 CLS [(x0, .inr (8, [.ref q_1, .ref q_20, .null])), (q_1, .inr (6, [.ref v_2, .ref v_3, .ref v_4, .ref v_5, .int 0, .ref v_6, .int (-1), .int 0, .int 0, .int 0, .long 0, .int 0, .int 0])), (v_2, .inl (g.2.1 3, 6, .inr (.inr (.inr (.inr f_16))))), (v_10, .inr (4, [.int 0, .int 0, .int 0, .int 0, .int 0, .int 0, .int 0, .int 0, .int 0, .int 0, .int 0, .int 0, .ref v_11, .ref v_12, .ref v_13, .ref v_14, .ref v_15])), (v_11, .inl (g.2.1 1, 5, .inl (fun _ => 0))), (v_12, .inl (g.2.1 1, 5, .inl (fun _ => 0))), (v_13, .inl (g.2.1 2, 5, .inl (fun _ => 0))), (v_14, .inl (g.2.1 1, 6, .inl (fun _ => 0))), (v_15, .inl (g.2.1 2, 6, .inl (fun _ => 0))), (v_3, .inr (5, [.ref v_2, .ref v_7, .int 0])), (v_4, .inr (3, [.ref v_8])), (v_8, .inl (g.2.1 0, 64, .inl f_17)), (v_5, .inr (2, [.ref v_9, .int 0, .int 0])), (v_9, .inl (g.2.1 1, 16, .inl (fun _ => 0))), (q_20, .inr (6, [.ref v_21, .ref v_22, .ref v_23, .ref v_24, .int 0, .ref v_25, .int (-1), .int 0, .int 0, .int 0, .long 0, .int 0, .int 0])), (v_21, .inl (g.2.1 3, 6, .inr (.inr (.inr (.inr f_35))))), (v_29, .inr (4, [.int 0, .int 0, .int 0, .int 0, .int 0, .int 0, .int 0, .int 0, .int 0, .int 0, .int 0, .int 0, .ref v_30, .ref v_31, .ref v_32, .ref v_33, .ref v_34])), (v_30, .inl (g.2.1 1, 5, .inl (fun _ => 0))), (v_31, .inl (g.2.1 1, 5, .inl (fun _ => 0))), (v_32, .inl (g.2.1 2, 5, .inl (fun _ => 0))), (v_33, .inl (g.2.1 1, 6, .inl (fun _ => 0))), (v_34, .inl (g.2.1 2, 6, .inl (fun _ => 0))), (v_22, .inr (5, [.ref v_21, .ref v_26, .int 0])), (v_23, .inr (3, [.ref v_27])), (v_27, .inl (g.2.1 0, 64, .inl f_36)), (v_24, .inr (2, [.ref v_28, .int 0, .int 0])), (v_28, .inl (g.2.1 1, 16, .inl (fun _ => 0))), (q_39, .inr (7, [.null, .int 0]))] H := hP
  have hD : va_D A [(x0, .inr (8, [.ref q_1, .ref q_20, .null])), (q_1, .inr (6, [.ref v_2, .ref v_3, .ref v_4, .ref v_5, .int 0, .ref v_6, .int (-1), .int 0, .int 0, .int 0, .long 0, .int 0, .int 0])), (v_2, .inl (g.2.1 3, 6, .inr (.inr (.inr (.inr f_16))))), (v_10, .inr (4, [.int 0, .int 0, .int 0, .int 0, .int 0, .int 0, .int 0, .int 0, .int 0, .int 0, .int 0, .int 0, .ref v_11, .ref v_12, .ref v_13, .ref v_14, .ref v_15])), (v_11, .inl (g.2.1 1, 5, .inl (fun _ => 0))), (v_12, .inl (g.2.1 1, 5, .inl (fun _ => 0))), (v_13, .inl (g.2.1 2, 5, .inl (fun _ => 0))), (v_14, .inl (g.2.1 1, 6, .inl (fun _ => 0))), (v_15, .inl (g.2.1 2, 6, .inl (fun _ => 0))), (v_3, .inr (5, [.ref v_2, .ref v_7, .int 0])), (v_4, .inr (3, [.ref v_8])), (v_8, .inl (g.2.1 0, 64, .inl f_17)), (v_5, .inr (2, [.ref v_9, .int 0, .int 0])), (v_9, .inl (g.2.1 1, 16, .inl (fun _ => 0))), (q_20, .inr (6, [.ref v_21, .ref v_22, .ref v_23, .ref v_24, .int 0, .ref v_25, .int (-1), .int 0, .int 0, .int 0, .long 0, .int 0, .int 0])), (v_21, .inl (g.2.1 3, 6, .inr (.inr (.inr (.inr f_35))))), (v_29, .inr (4, [.int 0, .int 0, .int 0, .int 0, .int 0, .int 0, .int 0, .int 0, .int 0, .int 0, .int 0, .int 0, .ref v_30, .ref v_31, .ref v_32, .ref v_33, .ref v_34])), (v_30, .inl (g.2.1 1, 5, .inl (fun _ => 0))), (v_31, .inl (g.2.1 1, 5, .inl (fun _ => 0))), (v_32, .inl (g.2.1 2, 5, .inl (fun _ => 0))), (v_33, .inl (g.2.1 1, 6, .inl (fun _ => 0))), (v_34, .inl (g.2.1 2, 6, .inl (fun _ => 0))), (v_22, .inr (5, [.ref v_21, .ref v_26, .int 0])), (v_23, .inr (3, [.ref v_27])), (v_27, .inl (g.2.1 0, 64, .inl f_36)), (v_24, .inr (2, [.ref v_28, .int 0, .int 0])), (v_28, .inl (g.2.1 1, 16, .inl (fun _ => 0))), (q_39, .inr (7, [.null, .int 0]))] := hD
  refine W.widen (k := 123) (n := 1028) (Nat.le_of_ble_eq_true rfl) (Nat.le_of_ble_eq_true rfl) ?_
  refine lv_dup hx hb dX7_init_30 rfl ?_
  have hPc := hP.sub (ws' := [(q_39, .inr (7, [.null, .int 0]))]) [27] rfl
  have hDc := hD.sub (ws' := [(q_39, .inr (7, [.null, .int 0]))]) [27] (by decide) rfl
  have hFc := va_free (wc := [(q_39, .inr (7, [.null, .int 0]))]) hD hS hA [27] rfl
  refine q_cv (wr := [(x0, .inr (8, [.ref q_1, .ref q_20, .null])), (q_1, .inr (6, [.ref v_2, .ref v_3, .ref v_4, .ref v_5, .int 0, .ref v_6, .int (-1), .int 0, .int 0, .int 0, .long 0, .int 0, .int 0])), (v_2, .inl (g.2.1 3, 6, .inr (.inr (.inr (.inr f_16))))), (v_10, .inr (4, [.int 0, .int 0, .int 0, .int 0, .int 0, .int 0, .int 0, .int 0, .int 0, .int 0, .int 0, .int 0, .ref v_11, .ref v_12, .ref v_13, .ref v_14, .ref v_15])), (v_11, .inl (g.2.1 1, 5, .inl (fun _ => 0))), (v_12, .inl (g.2.1 1, 5, .inl (fun _ => 0))), (v_13, .inl (g.2.1 2, 5, .inl (fun _ => 0))), (v_14, .inl (g.2.1 1, 6, .inl (fun _ => 0))), (v_15, .inl (g.2.1 2, 6, .inl (fun _ => 0))), (v_3, .inr (5, [.ref v_2, .ref v_7, .int 0])), (v_4, .inr (3, [.ref v_8])), (v_8, .inl (g.2.1 0, 64, .inl f_17)), (v_5, .inr (2, [.ref v_9, .int 0, .int 0])), (v_9, .inl (g.2.1 1, 16, .inl (fun _ => 0))), (q_20, .inr (6, [.ref v_21, .ref v_22, .ref v_23, .ref v_24, .int 0, .ref v_25, .int (-1), .int 0, .int 0, .int 0, .long 0, .int 0, .int 0])), (v_21, .inl (g.2.1 3, 6, .inr (.inr (.inr (.inr f_35))))), (v_29, .inr (4, [.int 0, .int 0, .int 0, .int 0, .int 0, .int 0, .int 0, .int 0, .int 0, .int 0, .int 0, .int 0, .ref v_30, .ref v_31, .ref v_32, .ref v_33, .ref v_34])), (v_30, .inl (g.2.1 1, 5, .inl (fun _ => 0))), (v_31, .inl (g.2.1 1, 5, .inl (fun _ => 0))), (v_32, .inl (g.2.1 2, 5, .inl (fun _ => 0))), (v_33, .inl (g.2.1 1, 6, .inl (fun _ => 0))), (v_34, .inl (g.2.1 2, 6, .inl (fun _ => 0))), (v_22, .inr (5, [.ref v_21, .ref v_26, .int 0])), (v_23, .inr (3, [.ref v_27])), (v_27, .inl (g.2.1 0, 64, .inl f_36)), (v_24, .inr (2, [.ref v_28, .int 0, .int 0])), (v_28, .inl (g.2.1 1, 16, .inl (fun _ => 0)))]) (va_runIN (As := []) (rest := [.ref q_39, .ref x0]) ⟨hx, hb, hml, hown, htg⟩ (c_X6_init l hfl g q_39  H.size) ⟨(qN htg k300 k56 hT.1.1.2.2.2 ok_X6_init rfl rfl ⟨Nat.le_of_ble_eq_true rfl, Nat.le_of_ble_eq_true rfl⟩), rfl, htg _ k299⟩ (q_pre [.ref q_39] hPc hDc hK hS hT hFc) rfl rfl hl.1 rfl (lv_room (Nat.le_of_ble_eq_true rfl)) dX7_init_31 ⟨Nat.le_of_ble_eq_true rfl, Nat.le_of_ble_eq_true rfl⟩) hP hD hS hFc [27] [0, 1, 2, 3, 4, 5, 6, 7, 8, 9, 10, 11, 12, 13, 14, 15, 16, 17, 18, 19, 20, 21, 22, 23, 24, 25, 26] rfl rfl (by decide) (by decide) (fun u9 H locs hw hP hD hS => ?_)
  try dsimp only at hw
  rcases hw with ⟨q_40, rfl⟩
  have hP : va_P g.1 CLS [(x0, .inr (8, [.ref q_1, .ref q_20, .null])), (q_1, .inr (6, [.ref v_2, .ref v_3, .ref v_4, .ref v_5, .int 0, .ref v_6, .int (-1), .int 0, .int 0, .int 0, .long 0, .int 0, .int 0])), (v_2, .inl (g.2.1 3, 6, .inr (.inr (.inr (.inr f_16))))), (v_10, .inr (4, [.int 0, .int 0, .int 0, .int 0, .int 0, .int 0, .int 0, .int 0, .int 0, .int 0, .int 0, .int 0, .ref v_11, .ref v_12, .ref v_13, .ref v_14, .ref v_15])), (v_11, .inl (g.2.1 1, 5, .inl (fun _ => 0))), (v_12, .inl (g.2.1 1, 5, .inl (fun _ => 0))), (v_13, .inl (g.2.1 2, 5, .inl (fun _ => 0))), (v_14, .inl (g.2.1 1, 6, .inl (fun _ => 0))), (v_15, .inl (g.2.1 2, 6, .inl (fun _ => 0))), (v_3, .inr (5, [.ref v_2, .ref v_7, .int 0])), (v_4, .inr (3, [.ref v_8])), (v_8, .inl (g.2.1 0, 64, .inl f_17)), (v_5, .inr (2, [.ref v_9, .int 0, .int 0])), (v_9, .inl (g.2.1 1, 16, .inl (fun _ => 0))), (q_20, .inr (6, [.ref v_21, .ref v_22, .ref v_23, .ref v_24, .int 0, .ref v_25, .int (-1), .int 0, .int 0, .int 0, .long 0, .int 0, .int 0])), (v_21, .inl (g.2.1 3, 6, .inr (.inr (.inr (.inr f_35))))), (v_29, .inr (4, [.int 0, .int 0, .int 0, .int 0, .int 0, .int 0, .int 0, .int 0, .int 0, .int 0, .int 0, .int 0, .ref v_30, .ref v_31, .ref v_32, .ref v_33, .ref v_34])), (v_30, .inl (g.2.1 1, 5, .inl (fun _ => 0))), (v_31, .inl (g.2.1 1, 5, .inl (fun _ => 0))), (v_32, .inl (g.2.1 2, 5, .inl (fun _ => 0))), (v_33, .inl (g.2.1 1, 6, .inl (fun _ => 0))), (v_34, .inl (g.2.1 2, 6, .inl (fun _ => 0))), (v_22, .inr (5, [.ref v_21, .ref v_26, .int 0])), (v_23, .inr (3, [.ref v_27])), (v_27, .inl (g.2.1 0, 64, .inl f_36)), (v_24, .inr (2, [.ref v_28, .int 0, .int 0])), (v_28, .inl (g.2.1 1, 16, .inl (fun _ => 0))), (q_39, .inr (7, [.ref q_40, .int 0])), (q_40, .inl (g.2.1 1, 128, .inl (fun _ => 0)))] H := hP
  have hD : va_D A [(x0, .inr (8, [.ref q_1, .ref q_20, .null])), (q_1, .inr (6, [.ref v_2, .ref v_3, .ref v_4, .ref v_5, .int 0, .ref v_6, .int (-1), .int 0, .int 0, .int 0, .long 0, .int 0, .int 0])), (v_2, .inl (g.2.1 3, 6, .inr (.inr (.inr (.inr f_16))))), (v_10, .inr (4, [.int 0, .int 0, .int 0, .int 0, .int 0, .int 0, .int 0, .int 0, .int 0, .int 0, .int 0, .int 0, .ref v_11, .ref v_12, .ref v_13, .ref v_14, .ref v_15])), (v_11, .inl (g.2.1 1, 5, .inl (fun _ => 0))), (v_12, .inl (g.2.1 1, 5, .inl (fun _ => 0))), (v_13, .inl (g.2.1 2, 5, .inl (fun _ => 0))), (v_14, .inl (g.2.1 1, 6, .inl (fun _ => 0))), (v_15, .inl (g.2.1 2, 6, .inl (fun _ => 0))), (v_3, .inr (5, [.ref v_2, .ref v_7, .int 0])), (v_4, .inr (3, [.ref v_8])), (v_8, .inl (g.2.1 0, 64, .inl f_17)), (v_5, .inr (2, [.ref v_9, .int 0, .int 0])), (v_9, .inl (g.2.1 1, 16, .inl (fun _ => 0))), (q_20, .inr (6, [.ref v_21, .ref v_22, .ref v_23, .ref v_24, .int 0, .ref v_25, .int (-1), .int 0, .int 0, .int 0, .long 0, .int 0, .int 0])), (v_21, .inl (g.2.1 3, 6, .inr (.inr (.inr (.inr f_35))))), (v_29, .inr (4, [.int 0, .int 0, .int 0, .int 0, .int 0, .int 0, .int 0, .int 0, .int 0, .int 0, .int 0, .int 0, .ref v_30, .ref v_31, .ref v_32, .ref v_33, .ref v_34])), (v_30, .inl (g.2.1 1, 5, .inl (fun _ => 0))), (v_31, .inl (g.2.1 1, 5, .inl (fun _ => 0))), (v_32, .inl (g.2.1 2, 5, .inl (fun _ => 0))), (v_33, .inl (g.2.1 1, 6, .inl (fun _ => 0))), (v_34, .inl (g.2.1 2, 6, .inl (fun _ => 0))), (v_22, .inr (5, [.ref v_21, .ref v_26, .int 0])), (v_23, .inr (3, [.ref v_27])), (v_27, .inl (g.2.1 0, 64, .inl f_36)), (v_24, .inr (2, [.ref v_28, .int 0, .int 0])), (v_28, .inl (g.2.1 1, 16, .inl (fun _ => 0))), (q_39, .inr (7, [.ref q_40, .int 0])), (q_40, .inl (g.2.1 1, 128, .inl (fun _ => 0)))] := hD
  refine W.widen (k := 124) (n := 1156) (Nat.le_of_ble_eq_true rfl) (Nat.le_of_ble_eq_true rfl) ?_
  refine va_putF (D := g.1) (ci := 8) (v := .ref q_39) (ty := (.object "HeroTable$Transcript")) (C := RX7) (T := TX7) (N := 3) hx hb htg inG_X7 tyX7 tyX7_ok nmX7 hown hK hP hD hS 0 rfl rfl 2 (by decide) (htg _ k312) (fun _ h9 => h9) rfl hin rfl (by decide +kernel) rfl rfl (Nat.le_of_ble_eq_true rfl) dX7_init_34 (fun H locs hP hD hS => ?_)
  have hP : va_P g.1 CLS [(x0, .inr (8, [.ref q_1, .ref q_20, .ref q_39])), (q_1, .inr (6, [.ref v_2, .ref v_3, .ref v_4, .ref v_5, .int 0, .ref v_6, .int (-1), .int 0, .int 0, .int 0, .long 0, .int 0, .int 0])), (v_2, .inl (g.2.1 3, 6, .inr (.inr (.inr (.inr f_16))))), (v_10, .inr (4, [.int 0, .int 0, .int 0, .int 0, .int 0, .int 0, .int 0, .int 0, .int 0, .int 0, .int 0, .int 0, .ref v_11, .ref v_12, .ref v_13, .ref v_14, .ref v_15])), (v_11, .inl (g.2.1 1, 5, .inl (fun _ => 0))), (v_12, .inl (g.2.1 1, 5, .inl (fun _ => 0))), (v_13, .inl (g.2.1 2, 5, .inl (fun _ => 0))), (v_14, .inl (g.2.1 1, 6, .inl (fun _ => 0))), (v_15, .inl (g.2.1 2, 6, .inl (fun _ => 0))), (v_3, .inr (5, [.ref v_2, .ref v_7, .int 0])), (v_4, .inr (3, [.ref v_8])), (v_8, .inl (g.2.1 0, 64, .inl f_17)), (v_5, .inr (2, [.ref v_9, .int 0, .int 0])), (v_9, .inl (g.2.1 1, 16, .inl (fun _ => 0))), (q_20, .inr (6, [.ref v_21, .ref v_22, .ref v_23, .ref v_24, .int 0, .ref v_25, .int (-1), .int 0, .int 0, .int 0, .long 0, .int 0, .int 0])), (v_21, .inl (g.2.1 3, 6, .inr (.inr (.inr (.inr f_35))))), (v_29, .inr (4, [.int 0, .int 0, .int 0, .int 0, .int 0, .int 0, .int 0, .int 0, .int 0, .int 0, .int 0, .int 0, .ref v_30, .ref v_31, .ref v_32, .ref v_33, .ref v_34])), (v_30, .inl (g.2.1 1, 5, .inl (fun _ => 0))), (v_31, .inl (g.2.1 1, 5, .inl (fun _ => 0))), (v_32, .inl (g.2.1 2, 5, .inl (fun _ => 0))), (v_33, .inl (g.2.1 1, 6, .inl (fun _ => 0))), (v_34, .inl (g.2.1 2, 6, .inl (fun _ => 0))), (v_22, .inr (5, [.ref v_21, .ref v_26, .int 0])), (v_23, .inr (3, [.ref v_27])), (v_27, .inl (g.2.1 0, 64, .inl f_36)), (v_24, .inr (2, [.ref v_28, .int 0, .int 0])), (v_28, .inl (g.2.1 1, 16, .inl (fun _ => 0))), (q_39, .inr (7, [.ref q_40, .int 0])), (q_40, .inl (g.2.1 1, 128, .inl (fun _ => 0)))] H := hP
  have hD : va_D A [(x0, .inr (8, [.ref q_1, .ref q_20, .ref q_39])), (q_1, .inr (6, [.ref v_2, .ref v_3, .ref v_4, .ref v_5, .int 0, .ref v_6, .int (-1), .int 0, .int 0, .int 0, .long 0, .int 0, .int 0])), (v_2, .inl (g.2.1 3, 6, .inr (.inr (.inr (.inr f_16))))), (v_10, .inr (4, [.int 0, .int 0, .int 0, .int 0, .int 0, .int 0, .int 0, .int 0, .int 0, .int 0, .int 0, .int 0, .ref v_11, .ref v_12, .ref v_13, .ref v_14, .ref v_15])), (v_11, .inl (g.2.1 1, 5, .inl (fun _ => 0))), (v_12, .inl (g.2.1 1, 5, .inl (fun _ => 0))), (v_13, .inl (g.2.1 2, 5, .inl (fun _ => 0))), (v_14, .inl (g.2.1 1, 6, .inl (fun _ => 0))), (v_15, .inl (g.2.1 2, 6, .inl (fun _ => 0))), (v_3, .inr (5, [.ref v_2, .ref v_7, .int 0])), (v_4, .inr (3, [.ref v_8])), (v_8, .inl (g.2.1 0, 64, .inl f_17)), (v_5, .inr (2, [.ref v_9, .int 0, .int 0])), (v_9, .inl (g.2.1 1, 16, .inl (fun _ => 0))), (q_20, .inr (6, [.ref v_21, .ref v_22, .ref v_23, .ref v_24, .int 0, .ref v_25, .int (-1), .int 0, .int 0, .int 0, .long 0, .int 0, .int 0])), (v_21, .inl (g.2.1 3, 6, .inr (.inr (.inr (.inr f_35))))), (v_29, .inr (4, [.int 0, .int 0, .int 0, .int 0, .int 0, .int 0, .int 0, .int 0, .int 0, .int 0, .int 0, .int 0, .ref v_30, .ref v_31, .ref v_32, .ref v_33, .ref v_34])), (v_30, .inl (g.2.1 1, 5, .inl (fun _ => 0))), (v_31, .inl (g.2.1 1, 5, .inl (fun _ => 0))), (v_32, .inl (g.2.1 2, 5, .inl (fun _ => 0))), (v_33, .inl (g.2.1 1, 6, .inl (fun _ => 0))), (v_34, .inl (g.2.1 2, 6, .inl (fun _ => 0))), (v_22, .inr (5, [.ref v_21, .ref v_26, .int 0])), (v_23, .inr (3, [.ref v_27])), (v_27, .inl (g.2.1 0, 64, .inl f_36)), (v_24, .inr (2, [.ref v_28, .int 0, .int 0])), (v_28, .inl (g.2.1 1, 16, .inl (fun _ => 0))), (q_39, .inr (7, [.ref q_40, .int 0])), (q_40, .inl (g.2.1 1, 128, .inl (fun _ => 0)))] := hD
  have hP9 := hP.sub (ws' := [(x0, .inr (8, [.ref q_1, .ref q_20, .ref q_39])), (q_1, .inr (6, [.ref v_2, .ref v_3, .ref v_4, .ref v_5, .int 0, .ref v_6, .int (-1), .int 0, .int 0, .int 0, .long 0, .int 0, .int 0])), (v_2, .inl (g.2.1 3, 6, .inr (.inr (.inr (.inr f_16))))), (v_10, .inr (4, [.int 0, .int 0, .int 0, .int 0, .int 0, .int 0, .int 0, .int 0, .int 0, .int 0, .int 0, .int 0, .ref v_11, .ref v_12, .ref v_13, .ref v_14, .ref v_15])), (v_11, .inl (g.2.1 1, 5, .inl (fun _ => 0))), (v_12, .inl (g.2.1 1, 5, .inl (fun _ => 0))), (v_13, .inl (g.2.1 2, 5, .inl (fun _ => 0))), (v_14, .inl (g.2.1 1, 6, .inl (fun _ => 0))), (v_15, .inl (g.2.1 2, 6, .inl (fun _ => 0))), (v_3, .inr (5, [.ref v_2, .ref v_7, .int 0])), (v_4, .inr (3, [.ref v_8])), (v_8, .inl (g.2.1 0, 64, .inl f_17)), (v_5, .inr (2, [.ref v_9, .int 0, .int 0])), (v_9, .inl (g.2.1 1, 16, .inl (fun _ => 0))), (q_20, .inr (6, [.ref v_21, .ref v_22, .ref v_23, .ref v_24, .int 0, .ref v_25, .int (-1), .int 0, .int 0, .int 0, .long 0, .int 0, .int 0])), (v_22, .inr (5, [.ref v_21, .ref v_26, .int 0])), (v_23, .inr (3, [.ref v_27])), (v_27, .inl (g.2.1 0, 64, .inl f_36)), (v_24, .inr (2, [.ref v_28, .int 0, .int 0])), (q_39, .inr (7, [.ref q_40, .int 0])), (q_40, .inl (g.2.1 1, 128, .inl (fun _ => 0)))]) [0, 1, 2, 3, 4, 5, 6, 7, 8, 9, 10, 11, 12, 13, 14, 22, 23, 24, 25, 27, 28] rfl
  have hD9 := hD.sub (ws' := [(x0, .inr (8, [.ref q_1, .ref q_20, .ref q_39])), (q_1, .inr (6, [.ref v_2, .ref v_3, .ref v_4, .ref v_5, .int 0, .ref v_6, .int (-1), .int 0, .int 0, .int 0, .long 0, .int 0, .int 0])), (v_2, .inl (g.2.1 3, 6, .inr (.inr (.inr (.inr f_16))))), (v_10, .inr (4, [.int 0, .int 0, .int 0, .int 0, .int 0, .int 0, .int 0, .int 0, .int 0, .int 0, .int 0, .int 0, .ref v_11, .ref v_12, .ref v_13, .ref v_14, .ref v_15])), (v_11, .inl (g.2.1 1, 5, .inl (fun _ => 0))), (v_12, .inl (g.2.1 1, 5, .inl (fun _ => 0))), (v_13, .inl (g.2.1 2, 5, .inl (fun _ => 0))), (v_14, .inl (g.2.1 1, 6, .inl (fun _ => 0))), (v_15, .inl (g.2.1 2, 6, .inl (fun _ => 0))), (v_3, .inr (5, [.ref v_2, .ref v_7, .int 0])), (v_4, .inr (3, [.ref v_8])), (v_8, .inl (g.2.1 0, 64, .inl f_17)), (v_5, .inr (2, [.ref v_9, .int 0, .int 0])), (v_9, .inl (g.2.1 1, 16, .inl (fun _ => 0))), (q_20, .inr (6, [.ref v_21, .ref v_22, .ref v_23, .ref v_24, .int 0, .ref v_25, .int (-1), .int 0, .int 0, .int 0, .long 0, .int 0, .int 0])), (v_22, .inr (5, [.ref v_21, .ref v_26, .int 0])), (v_23, .inr (3, [.ref v_27])), (v_27, .inl (g.2.1 0, 64, .inl f_36)), (v_24, .inr (2, [.ref v_28, .int 0, .int 0])), (q_39, .inr (7, [.ref q_40, .int 0])), (q_40, .inl (g.2.1 1, 128, .inl (fun _ => 0)))]) [0, 1, 2, 3, 4, 5, 6, 7, 8, 9, 10, 11, 12, 13, 14, 22, 23, 24, 25, 27, 28] (by decide) rfl
  refine W.widen (k := 150) (n := 1400) (Nat.le_of_ble_eq_true rfl) (Nat.le_of_ble_eq_true rfl) ?_
  exact W.vret hx hb hr (fun t ht hW => ⟨⟨[(x0, .inr (8, [.ref q_1, .ref q_20, .ref q_39])), (q_1, .inr (6, [.ref v_2, .ref v_3, .ref v_4, .ref v_5, .int 0, .ref v_6, .int (-1), .int 0, .int 0, .int 0, .long 0, .int 0, .int 0])), (v_2, .inl (g.2.1 3, 6, .inr (.inr (.inr (.inr f_16))))), (v_10, .inr (4, [.int 0, .int 0, .int 0, .int 0, .int 0, .int 0, .int 0, .int 0, .int 0, .int 0, .int 0, .int 0, .ref v_11, .ref v_12, .ref v_13, .ref v_14, .ref v_15])), (v_11, .inl (g.2.1 1, 5, .inl (fun _ => 0))), (v_12, .inl (g.2.1 1, 5, .inl (fun _ => 0))), (v_13, .inl (g.2.1 2, 5, .inl (fun _ => 0))), (v_14, .inl (g.2.1 1, 6, .inl (fun _ => 0))), (v_15, .inl (g.2.1 2, 6, .inl (fun _ => 0))), (v_3, .inr (5, [.ref v_2, .ref v_7, .int 0])), (v_4, .inr (3, [.ref v_8])), (v_8, .inl (g.2.1 0, 64, .inl f_17)), (v_5, .inr (2, [.ref v_9, .int 0, .int 0])), (v_9, .inl (g.2.1 1, 16, .inl (fun _ => 0))), (q_20, .inr (6, [.ref v_21, .ref v_22, .ref v_23, .ref v_24, .int 0, .ref v_25, .int (-1), .int 0, .int 0, .int 0, .long 0, .int 0, .int 0])), (v_22, .inr (5, [.ref v_21, .ref v_26, .int 0])), (v_23, .inr (3, [.ref v_27])), (v_27, .inl (g.2.1 0, 64, .inl f_36)), (v_24, .inr (2, [.ref v_28, .int 0, .int 0])), (q_39, .inr (7, [.ref q_40, .int 0])), (q_40, .inl (g.2.1 1, 128, .inl (fun _ => 0)))], rfl, ⟨q_1, q_20, q_39, v_2, v_3, v_4, v_5, v_6, v_7, v_8, v_9, v_10, v_11, v_12, v_13, v_14, v_15, v_21, v_22, v_23, v_24, v_25, v_26, v_27, v_28, q_40, f_16, f_17, f_36, by assumption, by assumption, rfl⟩, by rw [ht]; exact hP9, va_K.moved hW.alike hK, hD9⟩, hS.F ht⟩) hS.2.2 dX7_init_37
