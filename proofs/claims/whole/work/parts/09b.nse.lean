/-! ===== 'throw new NoSuchElementException(text)': its constructor links its superclass's by another number than the kit's rows take (13), so the throw is walked here ===== -/
abbrev nse_X : String := "java/util/NoSuchElementException"
abbrev nse_Y : String := "java/lang/RuntimeException"
abbrev nse_c : ByteArray := prog_31_method_4_code
theorem nse_0 : decode nse_c 0 = .ok (.aload_n 0, 1) := by decide +kernel
theorem nse_1 : decode nse_c 1 = .ok (.aload_n 1, 1) := by decide +kernel
theorem nse_2 : decode nse_c 2 = .ok (.invokespecial 13, 3) := by decide +kernel
theorem nse_5 : decode nse_c 5 = .ok (.return_, 1) := by decide +kernel
def nse_at : List Cond := Bundle.throwableAtoms ++ (Bundle.throwableSAtoms ++ (Bundle.passSAtoms nse_X nse_Y 13 nse_c ++ (Bundle.chainSAtoms nse_Y ["java/lang/Exception"] ++
  [.methodLink RX6 159 (Bundle.initS nse_X), .instantiable nse_X 6, .castable nse_X nse_X, .selects nse_X Bundle.tFill0 Bundle.tFill0, .selects nse_X Bundle.tFill Bundle.tFill,
   .lays nse_X Bundle.tN "cause" "Ljava/lang/Throwable;", .lays nse_X Bundle.tN "stackTrace" Bundle.steD, .lays nse_X Bundle.tN "suppressedExceptions" Bundle.listD, .lays nse_X Bundle.tN "detailMessage" "Ljava/lang/String;",
   .isRef (.static Bundle.tN "UNASSIGNED_STACK" Bundle.steD), .isRef (.static Bundle.tN "SUPPRESSED_SENTINEL" Bundle.listD),
   .fieldLink Bundle.tN 198 Bundle.tN "backtrace" "Ljava/lang/Object;", .lays Bundle.tN Bundle.tN "backtrace" "Ljava/lang/Object;", .lays nse_X Bundle.tN "backtrace" "Ljava/lang/Object;"])))
theorem nse_in : (nse_at.filter vx_no).all (fun w => decide (w ∈ lw_tbl) && (gx_ok w && vx_ot w)) = true := by decide +kernel
theorem nse_k : Cond.classLink RX6 155 nse_X ∈ gl := gl_3 (i := 129) (by decide +kernel) rfl
theorem nse_i : Cond.initialized nse_X ∈ gl := gl_1 (i := 20) (by decide +kernel) rfl
